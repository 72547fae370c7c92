/-! the search of the program -/
def exq (G : hv) (A s : Int) (i : Nat) : Nat → List qe → List qe
  | 0, q => q
  | r + 1, q => exq G A s i r (if bt A (nN G - ((r + 1 : Nat) : Int)) = 1 ∧ cpb G s (nN G - ((r + 1 : Nat) : Int)) = true then rch (ag G (nN G - ((r + 1 : Nat) : Int)) s) (i : Int) (nN G - ((r + 1 : Nat) : Int)) q else q)
def bfq (G : hv) (A : Int) (So : Int → Bool) : Nat → Nat → List qe → Int × List qe
  | 0, _, q => (-1, q)
  | r + 1, i, q => if q.length ≤ i then (-1, q) else if So (gd q i).1 = true then ((i : Int), q) else bfq G A So r (i + 1) (exq G A (gd q i).1 i (nN G).toNat q)
/-- q' goes on from q -/
def pfx (q q' : List qe) : Prop := q.length ≤ q'.length ∧ ∀ j, j < q.length → gd q' j = gd q j
theorem pfx_refl {q : List qe} : pfx q q := ⟨Nat.le_refl _, fun _ _ => rfl⟩
theorem pfx_trans {a b c : List qe} (h1 : pfx a b) (h2 : pfx b c) : pfx a c := ⟨Nat.le_trans h1.1 h2.1, fun j hj => by rw [h2.2 j (Nat.lt_of_lt_of_le hj h1.1), h1.2 j hj]⟩
theorem pfx_rch {s p y : Int} {q : List qe} : pfx q (rch s p y q) := by
  unfold rch
  split
  · exact pfx_refl
  · exact ⟨by rw [List.length_append]; omega, fun j hj => gd_lt hj⟩
theorem rch_ok {G : hv} (w : wfG G) {s0 s y : Int} {i : Nat} {q : List qe} (H : okQ G s0 q) (hi : i < q.length) (hs : (gd q i).1 = s) (hy0 : 0 ≤ y) (hy1 : y < nN G) (hc : cp G s y) : okQ G s0 (rch (ag G y s) (i : Int) y q) := by
  have b := H.2.1 i hi
  rw [hs] at b
  exact okQ_rch H hi (vs_ag w.1 b.1) (inR_ag w b.1 b.2.1 hc) hy0 hy1
theorem exq_ok {G : hv} (w : wfG G) {s0 s A : Int} {i : Nat} : ∀ (r : Nat) {q : List qe}, (r : Int) ≤ nN G → okQ G s0 q → i < q.length → (gd q i).1 = s → okQ G s0 (exq G A s i r q) ∧ pfx q (exq G A s i r q)
  | 0, q, _, H, _, _ => ⟨H, pfx_refl⟩
  | r + 1, q, hr, H, hi, hs => by
    rw [exq]
    by_cases c : bt A (nN G - ((r + 1 : Nat) : Int)) = 1 ∧ cpb G s (nN G - ((r + 1 : Nat) : Int)) = true
    · rw [if_pos c]
      have k := rch_ok w H hi hs (y := nN G - ((r + 1 : Nat) : Int)) (by omega) (by omega) (cpb_iff.mp c.2)
      have px := pfx_rch (s := ag G (nN G - ((r + 1 : Nat) : Int)) s) (p := (i : Int)) (y := nN G - ((r + 1 : Nat) : Int)) (q := q)
      have z := exq_ok w (A := A) (s := s) r (by omega) k (Nat.lt_of_lt_of_le hi px.1) (by rw [px.2 i hi]; exact hs)
      exact ⟨z.1, pfx_trans px z.2⟩
    · rw [if_neg c]
      exact exq_ok w r (by omega) H hi hs
def fQ (h : Nat) (m m' : xm) : Prop := ∀ a k, ¬ fCQ a k → ¬ (a = h + 1 ∧ k = 3) → a ≠ h + 3 → a ≠ h + 14 → m' a k = m a k
theorem fQ_CH {h : Nat} {m m' : xm} {G : hv} (p : isH h) (f : fQ h m m') (c : CH m h G) : CH m' h G := by
  have pr := isH_rng p
  refine CH_cg c (fun a k z => ldq (f a k ?_ ?_ ?_ ?_))
  · unfold fCQ
    rcases z with rfl | ⟨z1, z2⟩ | ⟨rfl, z⟩ <;> omega
  · rcases z with rfl | ⟨z1, z2⟩ | ⟨rfl, z⟩ <;> omega
  · rcases z with rfl | ⟨z1, z2⟩ | ⟨rfl, z⟩ <;> omega
  · rcases z with rfl | ⟨z1, z2⟩ | ⟨rfl, z⟩ <;> omega
theorem find_in {G : hv} {h : Nat} (p : isH h) (w : wfG G) {s0 s A : Int} {i : Nat} (hA0 : 0 ≤ A) (hA1 : A < 64) {K : Int → Int → xm → xr} : ∀ (r f : Nat) {m : xm} {q : List qe}, (r : Int) ≤ nN G → r < f → CH m h G → CM m h G → okQ G s0 q → i < q.length → (gd q i).1 = s → CQ m q → ∃ m', cS_find_67 h K f A (i : Int) s (nN G - (r : Int)) m = K A ((i : Int) + 1) m' ∧ fQ h m m' ∧ CM m' h G ∧ CQ m' (exq G A s i r q) := by
  have pr := isH_rng p
  have gN := w.2.1
  intro r
  induction r with
  | zero =>
    intro f m q hr hf ch M H hi hs C
    obtain ⟨f, rfl⟩ : ∃ f', f = f' + 1 := ⟨f - 1, by omega⟩
    rw [cS_find_67, cH_count_ok p ch (by decide) (by decide), bnd_some, show G 0 1 = nN G from rfl, w32_id (x := nN G) (by omega) (by omega), w32_id (x := nN G - ((0 : Nat) : Int)) (by omega) (by omega), if_pos (by omega)]
    exact ⟨m, rfl, fun _ _ _ _ _ _ => rfl, M, C⟩
  | succ r ih =>
    intro f m q hr hf ch M H hi hs C
    obtain ⟨f, rfl⟩ : ∃ f', f = f' + 1 := ⟨f - 1, by omega⟩
    obtain ⟨y, hy⟩ : ∃ y, nN G - ((r + 1 : Nat) : Int) = y := ⟨_, rfl⟩
    have b := H.2.1 i hi
    rw [hs] at b
    have len := okQ_len w H
    have go : ∀ {m1 q1}, fQ h m m1 → CM m1 h G → CQ m1 q1 → okQ G s0 q1 → pfx q q1 → ∃ m', cS_find_114 h K (fun v3 v4 v5 v6 m => cS_find_67 h K f v3 v4 v5 v6 m) A (i : Int) s y m1 = K A ((i : Int) + 1) m' ∧ fQ h m m' ∧ CM m' h G ∧ CQ m' (exq G A s i r q1) := by
      intro m1 q1 f1 M1 C1 H1 px
      obtain ⟨m2, d1, d2, d3, d4⟩ := ih f (m := m1) (q := q1) (by omega) (by omega) (fQ_CH p f1 ch) M1 H1 (Nat.lt_of_lt_of_le hi px.1) (by rw [px.2 i hi]; exact hs) C1
      refine ⟨m2, ?_, fun a k z1 z2 z3 z4 => by rw [d2 a k z1 z2 z3 z4, f1 a k z1 z2 z3 z4], d3, d4⟩
      unfold cS_find_114
      rw [show y + 1 = nN G - (r : Int) by omega]
      exact d1
    rw [cS_find_67, exq, hy, cH_count_ok p ch (by decide) (by decide), bnd_some, show G 0 1 = nN G from rfl, w32_id (x := nN G) (by omega) (by omega), w32_id (x := y) (by omega) (by omega), if_neg (by omega), bt_shr hA0 (by omega) (by omega) (by omega)]
    by_cases c1 : bt A y = 1
    · rw [if_pos c1]
      by_cases c2 : cp G s y
      · rw [cH_canPlay_in p w ch b.1 c2, bnd_some, if_neg (by decide), cH_after_ag p w ch b.1 (cp_ntk c2), bnd_some, if_pos ⟨c1, cpb_iff.mpr c2⟩]
        have k := rch_ok w H hi hs (y := y) (by omega) (by omega) c2
        have len2 := okQ_len w k
        obtain ⟨t, ht⟩ : ∃ t : Nat, ag G y s = (t : Int) := ⟨(ag G y s).toNat, by have := vs_s w.1 (vs_ag w.1 (n := y) b.1); omega⟩
        have tr := vs_s w.1 (vs_ag w.1 (n := y) b.1)
        rw [ht] at k len2 tr ⊢
        obtain ⟨m1, e1, e2, e3⟩ := cS_reach_ok C (s := t) (p := (i : Int)) (y := y) (by omega) ⟨by omega, by omega⟩ ⟨by omega, by omega⟩ (by
          by_cases z : (t : Int) ∈ fsq q
          · exact Or.inr z
          · refine Or.inl ?_
            unfold rch at len2
            rw [if_neg z, List.length_append] at len2
            have : q.length + 1 ≤ 1296 := len2
            omega)
        rw [e1, bnd_some]
        exact go (fun a k z1 _ _ _ => e3 a k z1) (CM_cg M (fun k => e3 _ k (by unfold fCQ; omega))) e2 k pfx_rch
      · have hyr : rg y := ⟨by omega, by omega⟩
        rw [cH_canPlay_out p w ch b.1 (by rw [w32_rg hyr]; exact c2), bnd_some, if_pos (by decide), if_neg (show ¬ (bt A y = 1 ∧ cpb G s y = true) from fun z => c2 (cpb_iff.mp z.2))]
        exact go (fun _ _ _ _ _ _ => rfl) M C H pfx_refl
    · rw [if_neg c1, if_neg (show ¬ (bt A y = 1 ∧ cpb G s y = true) from fun z => c1 z.1)]
      exact go (fun _ _ _ _ _ _ => rfl) M C H pfx_refl
/-- what is sought -/
def Sk (G : hv) (k g s : Int) : Bool := if k = 1 then decide (od G s = g) else if k = 2 then decide (ban (od G s) g = g) else if k = 3 then decide (s = g) else false
theorem sought_ok {G : hv} {h : Nat} (p : isH h) (w : wfG G) (hD : wfD G) {k g s : Int} {m : xm} (hk0 : 0 ≤ k) (hk3 : k ≤ 3) (ch : CH m h G) (M : CM m h G) (h5 : ld m 11 5 = k) (h6 : k ≠ 0 → ld m 11 6 = g) (hv : vs G s) : ∃ m', cS_isSought h s m = some (if Sk G k g s = true then 1 else 0, m') ∧ fo h m m' ∧ CM m' h G := by
  have pr := isH_rng p
  have sr := vs_s w.1 hv
  have o := od_rng w hD s
  obtain ⟨m1, b1, b2, b3⟩ := cH_openDoors_ok p w hD hv ch M
  have e6 : ld m1 11 6 = ld m 11 6 := ld_cg (fo_out p b2 (by decide)) _
  unfold cS_isSought Sk
  rw [h5]
  have hk : k = 0 ∨ k = 1 ∨ k = 2 ∨ k = 3 := by omega
  rcases hk with rfl | rfl | rfl | rfl
  · refine ⟨m, ?_, fo_refl, M⟩
    rw [xsw, if_neg (by decide), xsw, if_neg (by decide), xsw, if_neg (by decide), xsw]
    rfl
  · have h6' := h6 (by decide)
    refine ⟨m1, ?_, b2, b3⟩
    rw [xsw, if_pos (show (1 : Int) = 1 from rfl), b1, bnd_some, e6, h6', w32_id (x := od G s) (by omega) (by omega), if_pos (show (1 : Int) = 1 from rfl)]
    by_cases e : od G s = g
    · rw [if_pos e, if_pos (decide_eq_true e)]
    · rw [if_neg e, if_neg (by simpa using e)]
  · have h6' := h6 (by decide)
    refine ⟨m1, ?_, b2, b3⟩
    rw [xsw, if_neg (show ¬ ((2 : Int) = 1) by decide), xsw, if_pos (show (2 : Int) = 1 + 1 from rfl), b1, bnd_some, e6, h6', if_neg (show ¬ ((2 : Int) = 1) by decide), if_pos (show (2 : Int) = 2 from rfl)]
    by_cases e : ban (od G s) g = g
    · rw [if_pos e, if_pos (decide_eq_true e)]
    · rw [if_neg e, if_neg (by simpa using e)]
  · have h6' := h6 (by decide)
    refine ⟨m, ?_, fo_refl, M⟩
    rw [xsw, if_neg (show ¬ ((3 : Int) = 1) by decide), xsw, if_neg (show ¬ ((3 : Int) = 1 + 1) by decide), xsw, if_pos (show (3 : Int) = 1 + 1 + 1 from rfl), h6', w32_id (x := s) (by omega) (by omega), if_neg (show ¬ ((3 : Int) = 1) by decide), if_neg (show ¬ ((3 : Int) = 2) by decide), if_pos (show (3 : Int) = 3 from rfl)]
    by_cases e : s = g
    · rw [if_pos e, if_pos (decide_eq_true e)]
    · rw [if_neg e, if_neg (by simpa using e)]
theorem fo_fQ {h : Nat} {m m' : xm} (f : fo h m m') : fQ h m m' := fun a k _ z2 z3 z4 => f a k z2 z3 z4
theorem fQ_trans {h : Nat} {a b c : xm} (f : fQ h a b) (g : fQ h b c) : fQ h a c := fun x k z1 z2 z3 z4 => by rw [g x k z1 z2 z3 z4, f x k z1 z2 z3 z4]
theorem fo_CQ {h : Nat} {m m' : xm} {q : List qe} (p : isH h) (f : fo h m m') (C : CQ m q) : CQ m' q := CQ_cg C (fun a k z => by
  unfold fCQ at z
  rw [fo_out p f (by omega)])
theorem find_out {G : hv} {h : Nat} (p : isH h) (w : wfG G) (hD : wfD G) {s0 A k g : Int} (hA0 : 0 ≤ A) (hA1 : A < 64) (hk0 : 0 ≤ k) (hk3 : k ≤ 3) : ∀ (r f i : Nat) {m : xm} {q : List qe}, r + i = 1297 → r < f → CH m h G → CM m h G → okQ G s0 q → CQ m q → ld m 11 5 = k → (k ≠ 0 → ld m 11 6 = g) → ∃ m', cS_find_23 h f A (i : Int) m = some ((bfq G A (Sk G k g) r i q).1, m') ∧ fQ h m m' ∧ CM m' h G ∧ CQ m' (bfq G A (Sk G k g) r i q).2 ∧ okQ G s0 (bfq G A (Sk G k g) r i q).2 := by
  have pr := isH_rng p
  have gN := w.2.1
  intro r
  induction r with
  | zero =>
    intro f i m q hr hf ch M H C h5 h6
    obtain ⟨f, rfl⟩ : ∃ f', f = f' + 1 := ⟨f - 1, by omega⟩
    have len := okQ_len w H
    rw [cS_find_23, C.1, w32_id (x := (i : Int)) (by omega) (by omega), if_pos (by omega)]
    exact ⟨m, rfl, fun _ _ _ _ _ _ => rfl, M, C, H⟩
  | succ r ih =>
    intro f i m q hr hf ch M H C h5 h6
    obtain ⟨f, rfl⟩ : ∃ f', f = f' + 1 := ⟨f - 1, by omega⟩
    have len := okQ_len w H
    rw [cS_find_23, bfq, C.1, w32_id (x := (i : Int)) (by omega) (by omega)]
    by_cases c : q.length ≤ i
    · rw [if_pos (show (q.length : Int) ≤ (i : Int) by omega), if_pos c]
      exact ⟨m, rfl, fun _ _ _ _ _ _ => rfl, M, C, H⟩
    · have hi : i < q.length := by omega
      have b := H.2.1 i hi
      have ci := C.2.1 i hi
      obtain ⟨m1, a1, a2, a3⟩ := sought_ok p w hD hk0 hk3 ch M h5 h6 b.1
      have C1 := fo_CQ p a2 C
      rw [if_neg (show ¬ ((q.length : Int) ≤ (i : Int)) by omega), if_neg (show ¬ ((1296 : Int) ≤ (i : Int)) by omega), cell_in (by omega) (by rw [al13]; omega), bnd_some, ci.1, a1, bnd_some, if_neg c]
      by_cases e : Sk G k g (gd q i).1 = true
      · rw [if_pos e, if_neg (by decide), if_pos e]
        exact ⟨m1, rfl, fo_fQ a2, a3, C1, H⟩
      · rw [if_neg e, if_pos (by decide), if_neg e]
        obtain ⟨m2, d1, d2, d3, d4⟩ := find_in p w (s0 := s0) (s := (gd q i).1) (i := i) hA0 hA1 (K := fun v3 v4 m => cS_find_23 h f v3 v4 m) (nN G).toNat xLF (m := m1) (q := q) (by omega) (by rw [xLF_eq]; omega) (fo_CH a2 ch) a3 H hi rfl C1
        rw [show nN G - ((nN G).toNat : Int) = 0 by omega] at d1
        have f2 := fQ_trans (fo_fQ a2) d2
        have k5 : ld m2 11 5 = k := by rw [ldq (f2 11 5 (by unfold fCQ; omega) (by omega) (by omega) (by omega))]; exact h5
        have k6 : k ≠ 0 → ld m2 11 6 = g := fun z => by rw [ldq (f2 11 6 (by unfold fCQ; omega) (by omega) (by omega) (by omega))]; exact h6 z
        obtain ⟨m3, e1, e2, e3, e4, e5⟩ := ih f (i + 1) (m := m2) (q := exq G A (gd q i).1 i (nN G).toNat q) (by omega) (by omega) (fQ_CH p f2 ch) d3 (exq_ok w _ (by omega) H hi rfl).1 d4 k5 k6
        refine ⟨m3, ?_, fQ_trans f2 e2, e3, e4, e5⟩
        refine Eq.trans d1 ?_
        exact e1
theorem fill_loop {m0 : xm} : ∀ (f k : Nat) {m : xm}, k ≤ 313 → 313 - k < f → (∀ i, 0 ≤ i → i < (k : Int) → ld m 12 i = 0) → (∀ a j, a ≠ 12 → m a j = m0 a j) → ∃ m', j_fill_5 12 f 0 (k : Int) 313 m = some (0, m') ∧ (∀ i, 0 ≤ i → i < 313 → ld m' 12 i = 0) ∧ ∀ a j, a ≠ 12 → m' a j = m0 a j := by
  intro f
  induction f with
  | zero => intro k m _ hf; omega
  | succ f ih =>
    intro k m hk hf h1 h2
    rw [j_fill_5, w32_id (x := (313 : Int)) (by omega) (by omega), w32_id (x := (k : Int)) (by omega) (by omega)]
    by_cases e : (313 : Int) ≤ (k : Int)
    · rw [if_pos e]
      exact ⟨m, rfl, fun i z1 z2 => h1 i z1 (by omega), h2⟩
    · rw [if_neg e, ias_in (by omega) (by rw [al12]; omega)]
      refine ih (k + 1) (m := st m 12 (k : Int) 0) (by omega) (by omega) (fun i z1 z2 => ?_) (fun a j z => by rw [st_at (fun y => z y.1)]; exact h2 a j z)
      by_cases ei : i = (k : Int)
      · rw [ei, ld_st_eq]
        rfl
      · rw [ld_st_ne ei]
        exact h1 i z1 (by omega)
theorem cS_find_ok {G : hv} {h : Nat} (p : isH h) (w : wfG G) (hD : wfD G) {s0 A k g : Int} {m : xm} (hA0 : 0 ≤ A) (hA1 : A < 64) (hk0 : 0 ≤ k) (hk3 : k ≤ 3) (hv : vs G s0) (ch : CH m h G) (M : CM m h G) (h5 : ld m 11 5 = k) (h6 : k ≠ 0 → ld m 11 6 = g) : ∃ m', cS_find h s0 A m = some ((bfq G A (Sk G k g) 1297 0 [(s0, -1, -1, 0)]).1, m') ∧ fQ h m m' ∧ CM m' h G ∧ CQ m' (bfq G A (Sk G k g) 1297 0 [(s0, -1, -1, 0)]).2 ∧ okQ G s0 (bfq G A (Sk G k g) 1297 0 [(s0, -1, -1, 0)]).2 := by
  have pr := isH_rng p
  have sr := vs_s w.1 hv
  obtain ⟨m1, a1, a2, a3⟩ := fill_loop (m0 := m) xLF 0 (m := m) (by omega) (by rw [xLF_eq]; omega) (fun i z1 z2 => by omega) (fun _ _ _ => rfl)
  obtain ⟨t, ht⟩ : ∃ t : Nat, s0 = (t : Int) := ⟨s0.toNat, by omega⟩
  have C0 : CQ (st m1 11 4 0) [] := by
    refine ⟨by rw [ld_st_eq]; rfl, fun i hi => absurd hi (Nat.not_lt_zero _), fun s hs => ?_⟩
    unfold sqb
    rw [ld_st_nc (by decide), a2 _ (by omega) (by omega), sbt_0]
    exact ⟨fun z => absurd z (by decide), fun z => absurd z List.not_mem_nil⟩
  obtain ⟨m2, b1, b2, b3⟩ := cS_reach_ok C0 (s := t) (p := -1) (y := -1) (by omega) ⟨by decide, by decide⟩ ⟨by decide, by decide⟩ (Or.inl (by decide))
  have eq0 : rch (t : Int) (-1) (-1) [] = [(s0, -1, -1, 1)] := by rw [ht]; rfl
  have C1 : CQ m2 [(s0, -1, -1, 0)] := by
    rw [eq0] at b2
    obtain ⟨c1, c2, c3⟩ := b2
    refine ⟨c1, fun i hi => ?_, c3⟩
    have : i = 0 := by
      have : i < 1 := hi
      omega
    subst this
    exact c2 0 Nat.zero_lt_one
  have f2 : ∀ a j, ¬ fCQ a j → m2 a j = m a j := fun a j z => by
    rw [b3 a j z, st_at (fun y => z (Or.inl y)), a3 a j (fun y => z (Or.inr (by omega)))]
  have fq2 : fQ h m m2 := fun a j z _ _ _ => f2 a j z
  obtain ⟨m3, d1, d2, d3, d4, d5⟩ := find_out p w hD (s0 := s0) (A := A) (k := k) (g := g) hA0 hA1 hk0 hk3 1297 xLF 0 (m := m2) (q := [(s0, -1, -1, 0)]) (by omega) (by rw [xLF_eq]; omega) (fQ_CH p fq2 ch) (CM_cg M (fun j => f2 _ j (by unfold fCQ; omega))) (okQ_0 hv) C1 (by rw [ldq (f2 11 5 (by unfold fCQ; omega))]; exact h5) (fun z => by rw [ldq (f2 11 6 (by unfold fCQ; omega))]; exact h6 z)
  refine ⟨m3, ?_, fQ_trans fq2 d2, d3, d4, d5⟩
  unfold cS_find j_fill
  rw [xlt_eq, show aln 12 = 313 from rfl]
  refine Eq.trans (congrArg (fun x => bnd x _) a1) ?_
  rw [bnd_some, stf_eq, ht, b1, bnd_some, ← ht]
  exact d1
