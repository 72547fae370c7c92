/-! the search of the reference -/
def RQ (m : xm) (q : List qe) : Prop := ld m 78 55 = q.length ∧ (∀ i : Nat, i < q.length → ld m 116 (i : Int) = (gd q i).1 ∧ ld m 113 (gd q i).1 = (gd q i).2.2.2 ∧ (0 < i → ld m 114 (gd q i).1 = (gd q (gd q i).2.1.toNat).1 ∧ ld m 115 (gd q i).1 = (gd q i).2.2.1)) ∧ ∀ s, 0 ≤ s → s < 10000 → s ∉ fsq q → ld m 113 s = -1
def fRQ (a : Nat) (k : Int) : Prop := (a = 78 ∧ k = 55) ∨ (113 ≤ a ∧ a ≤ 116)
theorem RQ_cg {m m' : xm} {q : List qe} (H : RQ m q) (e : ∀ a k, fRQ a k → m' a k = m a k) : RQ m' q := by
  have e1 := ldq (e 78 55 (Or.inl ⟨rfl, rfl⟩))
  have e2 : ∀ a k, 113 ≤ a → a ≤ 116 → ld m' a k = ld m a k := fun a k z1 z2 => ldq (e a k (Or.inr ⟨z1, z2⟩))
  obtain ⟨h1, h2, h3⟩ := H
  refine ⟨by rw [e1]; exact h1, fun i hi => ?_, fun s z1 z2 z3 => by rw [e2 113 _ (by decide) (by decide)]; exact h3 s z1 z2 z3⟩
  rw [e2 116 _ (by decide) (by decide), e2 113 _ (by decide) (by decide), e2 114 _ (by decide) (by decide), e2 115 _ (by decide) (by decide)]
  exact h2 i hi
theorem okQ_inj {G : hv} {s0 : Int} {q : List qe} (H : okQ G s0 q) {i j : Nat} (hi : i < q.length) (hj : j < q.length) (e : (gd q i).1 = (gd q j).1) : i = j := by
  have nd : (fsq q).Nodup := H.2.2
  have li : i < (fsq q).length := by unfold fsq; rw [List.length_map]; exact hi
  have lj : j < (fsq q).length := by unfold fsq; rw [List.length_map]; exact hj
  have gi : ∀ {k} (hk : k < q.length) (hk' : k < (fsq q).length), (fsq q)[k] = (gd q k).1 := by
    intro k hk hk'
    have e2 : gd q k = q[k] := by
      unfold gd
      rw [List.getD_eq_getElem?_getD, List.getElem?_eq_getElem hk, Option.getD_some]
    rw [e2]
    exact List.getElem_map ..
  refine Decidable.byContradiction fun hne => ?_
  have hp : (fsq q).Pairwise (· ≠ ·) := nd
  rw [List.pairwise_iff_getElem] at hp
  rcases Nat.lt_or_gt_of_ne hne with z | z
  · exact hp i j li lj z (by rw [gi hi li, gi hj lj, e])
  · exact hp j i lj li z (by rw [gi hi li, gi hj lj, e])
theorem r_comesTo_ok {G : hv} (w : wfG G) {s0 s t y : Int} {i : Nat} {m : xm} {q : List qe} (H : RH m G) (N : NR m G t) (vt : vs G t) (Q : okQ G s0 q) (R : RQ m q) (hi : i < q.length) (hs : (gd q i).1 = s) (hy : rg y) (hlen : q.length < 9999) : ∃ m', r_comesTo s y m = some (0, m') ∧ RQ m' (rch t (i : Int) y q) ∧ ∀ a k, ¬ fRQ a k → m' a k = m a k := by
  obtain ⟨h1, h2, h3⟩ := R
  have tr := vs_s w.1 vt
  have b := Q.2.1 i hi
  rw [hs] at b
  have sr := vs_s w.1 b.1
  have ci := h2 i hi
  rw [hs] at ci
  unfold r_comesTo rch
  rw [r_stateNow_ok w H N, bnd_some, ial_in tr.1 (by rw [al113]; omega)]
  by_cases c : t ∈ fsq q
  · obtain ⟨j, j1, j2⟩ := fsq_ex c
    have cj := h2 j j1
    have bj := (Q.2.1 j j1).2.2.1
    rw [j2] at cj
    rw [cj.2.1, w32_id (x := (gd q j).2.2.2) (by omega) (by omega), if_neg (by omega), if_pos c]
    exact ⟨m, rfl, ⟨h1, h2, h3⟩, fun _ _ _ => rfl⟩
  · have d := h3 t tr.1 tr.2 c
    have bd := b.2.2.1
    have ne : ∀ j : Nat, j < q.length → (gd q j).1 ≠ t := fun j hj e => c (by rw [← e]; exact gd_mem hj)
    rw [d, if_pos (by decide), ial_in sr.1 (by rw [al113]; omega), ci.2.1, ias_in tr.1 (by rw [al113]; omega), ias_in tr.1 (by rw [al114]; omega), ias_in tr.1 (by rw [al115]; omega), if_neg c]
    have l1 : ld (st (st (st m 113 t ((gd q i).2.2.2 + 1)) 114 t s) 115 t y) 78 55 = q.length := by rw [ld_st_nc (by decide), ld_st_nc (by decide), ld_st_nc (by decide), h1]
    rw [l1, ias_in (by omega) (by rw [al116]; omega), stf_eq, ld_st_nc (by decide), l1]
    refine ⟨_, rfl, ⟨?_, fun j hj => ?_, fun u z1 z2 z3 => ?_⟩, fun a k z => ?_⟩
    · rw [ld_st_eq, List.length_append, w32_id (by omega) (by omega)]
      rfl
    · rw [List.length_append] at hj
      have hj2 : j < q.length + 1 := hj
      by_cases e : j = q.length
      · subst e
        rw [gd_eq]
        dsimp only
        refine ⟨?_, ?_, fun _ => ⟨?_, ?_⟩⟩
        · rw [ld_st_nc (by decide), ld_st_eq, w32_id (by omega) (by omega)]
        · rw [ld_st_nc (by decide), ld_st_nc (by decide), ld_st_nc (by decide), ld_st_nc (by decide), ld_st_eq, Int.toNat_natCast, w32_id (by omega) (by omega)]
        · rw [ld_st_nc (by decide), ld_st_nc (by decide), ld_st_nc (by decide), ld_st_eq, Int.toNat_natCast, gd_lt hi, hs, w32_id (by omega) (by omega)]
        · rw [ld_st_nc (by decide), ld_st_nc (by decide), ld_st_eq, w32_rg hy]
      · have jl : j < q.length := by omega
        have cj := h2 j jl
        have nj := ne j jl
        have bj := Q.2.1 j jl
        rw [gd_lt jl]
        refine ⟨?_, ?_, fun z => ⟨?_, ?_⟩⟩
        · rw [ld_st_nc (by decide), ld_st_ne (by omega), ld_st_nc (by decide), ld_st_nc (by decide), ld_st_nc (by decide), cj.1]
        · rw [ld_st_nc (by decide), ld_st_nc (by decide), ld_st_nc (by decide), ld_st_nc (by decide), ld_st_ne nj, cj.2.1]
        · have pj := bj.2.2.2 z
          rw [ld_st_nc (by decide), ld_st_nc (by decide), ld_st_nc (by decide), ld_st_ne nj, ld_st_nc (by decide), (cj.2.2 z).1, gd_lt (by omega)]
        · rw [ld_st_nc (by decide), ld_st_nc (by decide), ld_st_ne nj, ld_st_nc (by decide), ld_st_nc (by decide), (cj.2.2 z).2]
    · rw [fsq_app, List.mem_append, List.mem_singleton] at z3
      dsimp only at z3
      have n1 : u ≠ t := fun e => z3 (Or.inr e)
      rw [ld_st_nc (by decide), ld_st_nc (by decide), ld_st_nc (by decide), ld_st_nc (by decide), ld_st_ne n1]
      exact h3 u z1 z2 (fun e => z3 (Or.inl e))
    · unfold fRQ at z
      rw [st_at (by omega), st_at (by omega), st_at (by omega), st_at (by omega), st_at (by omega)]
def fE (m m' : xm) : Prop := ∀ a k, ¬ (a = 110 ∧ 1 ≤ k ∧ k ≤ 5) → ¬ fRQ a k → ¬ (a = 78 ∧ k = 90) → a ≠ 140 → m' a k = m a k
theorem fE_trans {a b c : xm} (f : fE a b) (g : fE b c) : fE a c := fun x k z1 z2 z3 z4 => by rw [g x k z1 z2 z3 z4, f x k z1 z2 z3 z4]
theorem fE_RH {m m' : xm} {G : hv} (f : fE m m') (H : RH m G) : RH m' G := RH_cg H (fun a k z1 z2 _ => ldq (f a k (by omega) (by unfold fRQ; omega) (by omega) (by omega)))
theorem seeks_in {G : hv} (w : wfG G) {s0 s A X k g v4 : Int} {i : Nat} (hX0 : 0 ≤ X) (hX1 : X < 64) (hAX : ∀ y, 0 ≤ y → y < nN G → (bt A y = 1 ↔ bt X y ≠ 1)) {K : Int → Int → Int → Int → Int → Int → xm → xr} : ∀ (r f : Nat) {m : xm} {q : List qe}, (r : Int) ≤ nN G → r < f → RH m G → NR m G s → okQ G s0 q → i < q.length → (gd q i).1 = s → RQ m q → ∃ m', r_seeks_105 K f X k g v4 (-1) (i : Int) (nN G - (r : Int)) m = K X k g v4 (-1) ((i : Int) + 1) m' ∧ fE m m' ∧ RQ m' (exq G A s i r q) := by
  have gN := w.2.1
  intro r
  induction r with
  | zero =>
    intro f m q hr hf H N Q hi hs R
    obtain ⟨f, rfl⟩ : ∃ f', f = f' + 1 := ⟨f - 1, by omega⟩
    rw [r_seeks_105, r_noteMany_ok H, bnd_some, w32_id (x := nN G) (by omega) (by omega), w32_id (x := nN G - ((0 : Nat) : Int)) (by omega) (by omega), if_pos (by omega)]
    exact ⟨m, rfl, fun _ _ _ _ _ _ => rfl, R⟩
  | succ r ih =>
    intro f m q hr hf H N Q hi hs R
    obtain ⟨f, rfl⟩ : ∃ f', f = f' + 1 := ⟨f - 1, by omega⟩
    obtain ⟨y, hy⟩ : ∃ y, nN G - ((r + 1 : Nat) : Int) = y := ⟨_, rfl⟩
    have b := Q.2.1 i hi
    rw [hs] at b
    have len := okQ_len w Q
    have ax := hAX y (by omega) (by omega)
    have go : ∀ {m1 q1}, fE m m1 → NR m1 G s → RQ m1 q1 → okQ G s0 q1 → pfx q q1 → ∃ m', r_seeks_172 K (fun v1 v2 v3 v4 v5 v6 v7 m => r_seeks_105 K f v1 v2 v3 v4 v5 v6 v7 m) X k g v4 (-1) (i : Int) y m1 = K X k g v4 (-1) ((i : Int) + 1) m' ∧ fE m m' ∧ RQ m' (exq G A s i r q1) := by
      intro m1 q1 f1 N1 R1 Q1 px
      obtain ⟨m2, d1, d2, d3⟩ := ih f (m := m1) (q := q1) (by omega) (by omega) (fE_RH f1 H) N1 Q1 (Nat.lt_of_lt_of_le hi px.1) (by rw [px.2 i hi]; exact hs) R1
      refine ⟨m2, ?_, fE_trans f1 d2, d3⟩
      unfold r_seeks_172
      rw [show y + 1 = nN G - (r : Int) by omega]
      exact d1
    rw [r_seeks_105, exq, hy, r_noteMany_ok H, bnd_some, w32_id (x := nN G) (by omega) (by omega), w32_id (x := y) (by omega) (by omega), if_neg (by omega), if_pos (by decide), bt_shr hX0 (by omega) (by omega) (by omega)]
    by_cases c1 : bt X y = 1
    · rw [if_pos c1, if_neg (show ¬ (bt A y = 1 ∧ cpb G s y = true) from fun z => ax.mp z.1 c1)]
      exact go (fun _ _ _ _ _ _ => rfl) N R Q pfx_refl
    · have hyt : ntk G y := Or.inr ⟨by omega, by omega⟩
      have rc := r_canPlay_ok w H b.1 N (n := y) hyt
      rw [if_neg c1]
      by_cases c2 : cp G s y
      · have va := vs_ag w.1 (n := y) b.1
        obtain ⟨m1, a1, a2, a3⟩ := r_turns_ok w H b.1 N hyt
        have e116 : ∀ m', (∀ a j, ¬ (a = 110 ∧ 1 ≤ j ∧ j ≤ 5) → m' a j = m a j) → ld m' 116 (i : Int) = s := fun m' f => by rw [ldq (f 116 _ (by omega)), (R.2.1 i hi).1, hs]
        have R1 : RQ m1 q := RQ_cg R (fun a j z => a3 a j (by unfold fRQ at z; omega))
        obtain ⟨m2, d1, d2, d3⟩ := r_comesTo_ok w (fn_RH a3 H) a2 va Q R1 hi hs (y := y) ⟨by omega, by omega⟩ (by omega)
        have Q2 := rch_ok w Q hi hs (y := y) (by omega) (by omega) c2
        have px := pfx_rch (s := ag G y s) (p := (i : Int)) (y := y) (q := q)
        have e116b : ld m2 116 (i : Int) = s := by
          rw [(d2.2.1 i (Nat.lt_of_lt_of_le hi px.1)).1, px.2 i hi, hs]
        have H2 : RH m2 G := RH_cg (fn_RH a3 H) (fun a j z1 z2 _ => ldq (d3 a j (by unfold fRQ; omega)))
        obtain ⟨m3, g1, g2, g3⟩ := r_isState_ok w H2 b.1
        rw [rc.1 c2, bnd_some, if_neg (by decide), a1, bnd_some, ial_in (by omega) (by rw [al116]; omega), e116 m1 a3, d1, bnd_some, ial_in (by omega) (by rw [al116]; omega), e116b, g1, bnd_some, if_pos (show bt A y = 1 ∧ cpb G s y = true from ⟨ax.mpr c1, cpb_iff.mpr c2⟩)]
        exact go (fun a j z1 z2 _ _ => by rw [g3 a j z1, d3 a j z2, a3 a j z1]) g2 (RQ_cg d2 (fun a j z => g3 a j (by unfold fRQ at z; omega))) Q2 px
      · rw [rc.2 c2, bnd_some, if_pos (by decide), if_neg (show ¬ (bt A y = 1 ∧ cpb G s y = true) from fun z => c2 (cpb_iff.mp z.2))]
        exact go (fun _ _ _ _ _ _ => rfl) N R Q pfx_refl
/-- the state that was found -/
def fst1 (x : Int × List qe) : Int := if x.1 = -1 then -1 else (gd x.2 x.1.toNat).1
theorem fq_fE {m m' : xm} (f : fq m m') : fE m m' := fun a k _ _ z3 z4 => f a k z3 z4
theorem seeks_184 {G : hv} (w : wfG G) {s0 v : Int} {m : xm} {q : List qe} (hv : vs G s0) (H : RH m G) (R : RQ m q) : ∃ m', r_seeks_184 s0 v m = some (v, m') ∧ fE m m' ∧ NR m' G s0 ∧ RQ m' q := by
  obtain ⟨m1, a1, a2, a3⟩ := r_isState_ok w H hv
  unfold r_seeks_184
  rw [a1, bnd_some]
  exact ⟨m1, rfl, fun a k z1 _ _ _ => a3 a k z1, a2, RQ_cg R (fun a j z => a3 a j (by unfold fRQ at z; omega))⟩
theorem seeks_out {G : hv} (w : wfG G) {s0 A X k g : Int} {So : Int → Bool} (hv : vs G s0) (hX0 : 0 ≤ X) (hX1 : X < 64) (hAX : ∀ y, 0 ≤ y → y < nN G → (bt A y = 1 ↔ bt X y ≠ 1)) (hT : ∀ m s, RH m G → NR m G s → vs G s → ∃ m', r_isThere k g m = some (if So s = true then 1 else 0, m') ∧ fq m m') : ∀ (r f i : Nat) {m : xm} {q : List qe}, r + i = 1297 → r + 1 < f → RH m G → okQ G s0 q → RQ m q → ∃ m', r_seeks_58 f X k g s0 (-1) (i : Int) m = some (fst1 (bfq G A So r i q), m') ∧ fE m m' ∧ NR m' G s0 ∧ RQ m' (bfq G A So r i q).2 ∧ okQ G s0 (bfq G A So r i q).2 := by
  have gN := w.2.1
  intro r
  induction r with
  | zero =>
    intro f i m q hr hf H Q R
    obtain ⟨f, rfl⟩ : ∃ f', f = f' + 1 := ⟨f - 1, by omega⟩
    have len := okQ_len w Q
    obtain ⟨m1, a1, a2, a3, a4⟩ := seeks_184 w (v := -1) hv H R
    rw [r_seeks_58, R.1, w32_id (x := (i : Int)) (by omega) (by omega), if_pos (by omega), a1]
    exact ⟨m1, rfl, a2, a3, a4, Q⟩
  | succ r ih =>
    intro f i m q hr hf H Q R
    obtain ⟨f, rfl⟩ : ∃ f', f = f' + 1 := ⟨f - 1, by omega⟩
    have len := okQ_len w Q
    rw [r_seeks_58, bfq, R.1, w32_id (x := (i : Int)) (by omega) (by omega)]
    by_cases c : q.length ≤ i
    · obtain ⟨m1, a1, a2, a3, a4⟩ := seeks_184 w (v := -1) hv H R
      rw [if_pos (show (q.length : Int) ≤ (i : Int) by omega), if_pos c, a1]
      exact ⟨m1, rfl, a2, a3, a4, Q⟩
    · have hi : i < q.length := by omega
      have b := Q.2.1 i hi
      have br := vs_s w.1 b.1
      have ci := R.2.1 i hi
      obtain ⟨m1, a1, a2, a3⟩ := r_isState_ok w H b.1
      have H1 := fn_RH a3 H
      obtain ⟨m2, b1, b2⟩ := hT m1 _ H1 a2 b.1
      have f2 : fE m m2 := fun a j z1 z2 z3 z4 => by rw [b2 a j z3 z4, a3 a j z1]
      have H2 := fE_RH f2 H
      have N2 := fq_NR b2 a2
      have R2 : RQ m2 q := RQ_cg R (fun a j z => by unfold fRQ at z; rw [b2 a j (by omega) (by omega), a3 a j (by omega)])
      rw [if_neg (show ¬ ((q.length : Int) ≤ (i : Int)) by omega), if_pos (by decide), ial_in (by omega) (by rw [al116]; omega), ci.1, a1, bnd_some, b1, bnd_some, if_neg c]
      unfold r_seeks_102
      by_cases e : So (gd q i).1 = true
      · rw [if_pos e, if_neg (by decide), ial_in (by omega) (by rw [al116]; omega), (R2.2.1 i hi).1, xlt_eq, if_pos e]
        obtain ⟨m3, d1, d2, d3, d4⟩ := seeks_184 w (v := (gd q i).1) hv H2 R2
        obtain ⟨f, rfl⟩ : ∃ f', f = f' + 1 := ⟨f - 1, by omega⟩
        have x58 : r_seeks_58 (f + 1) X k g s0 (gd q i).1 ((i : Int) + 1) m2 = some ((gd q i).1, m3) := by
          rw [r_seeks_58, d1, w32_id (x := (gd q i).1) (by omega) (by omega), if_neg (show ¬ ((gd q i).1 = -1) by omega)]
          split <;> rfl
        have x105 : r_seeks_105 (fun v1 v2 v3 v4 v5 v6 m => r_seeks_58 (f + 1) v1 v2 v3 v4 v5 v6 m) xLF X k g s0 (gd q i).1 (i : Int) 0 m2 = some ((gd q i).1, m3) := by
          rw [xLF_eq, r_seeks_105, r_noteMany_ok H2, bnd_some]
          unfold r_seeks_178
          rw [w32_id (x := (gd q i).1) (by omega) (by omega), if_neg (show ¬ ((gd q i).1 = -1) by omega)]
          split
          · exact x58
          · exact x58
        refine ⟨m3, ?_, fE_trans f2 d2, d3, d4, Q⟩
        rw [x105]
        unfold fst1
        dsimp only
        rw [if_neg (show ¬ ((i : Int) = -1) by omega), Int.toNat_natCast]
      · rw [if_neg e, if_pos (by decide), if_neg e]
        obtain ⟨m3, d1, d2, d3⟩ := seeks_in w (s0 := s0) (s := (gd q i).1) (A := A) (X := X) (k := k) (g := g) (v4 := s0) (i := i) hX0 hX1 hAX (K := fun v1 v2 v3 v4 v5 v6 m => r_seeks_58 f v1 v2 v3 v4 v5 v6 m) (nN G).toNat xLF (m := m2) (q := q) (by omega) (by rw [xLF_eq]; omega) H2 N2 Q hi rfl R2
        rw [show nN G - ((nN G).toNat : Int) = 0 by omega] at d1
        have f3 := fE_trans f2 d2
        obtain ⟨m4, e1, e2, e3, e4, e5⟩ := ih f (i + 1) (m := m3) (q := exq G A (gd q i).1 i (nN G).toNat q) (by omega) (by omega) (fE_RH f3 H) (exq_ok w _ (by omega) Q hi rfl).1 d3
        refine ⟨m4, ?_, fE_trans f3 e2, e3, e4, e5⟩
        refine Eq.trans d1 ?_
        exact e1
