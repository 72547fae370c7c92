/-! ask: the answer -/
def awl (k ans i v : Int) : Int := if k = 0 then (if ans = -1 ∧ v ≠ 0 then i else ans) else if k = 1 then (if v ≠ 0 then i else ans) else if k = 4 then (if i = 0 then v else if ans < v then v else ans) else if k = 5 then (if i = 0 then v else if v < ans then v else ans) else ans + v
def avl (G : hv) (s : Int) (C : List Int) (i : Nat) : Int := (evl G s (i : Int) C []).headD 0
def anl (G : hv) (s : Int) (C : List Int) (k : Int) : Nat → Int
  | 0 => if k < 2 then -1 else 0
  | i + 1 => awl k (anl G s C k i) (i : Int) (avl G s C i)
theorem awl_rng {k ans i v B : Int} (h1 : -B ≤ ans) (h2 : ans ≤ B) (h3 : -1000000 ≤ v) (h4 : v ≤ 1000000) (h5 : 0 ≤ i) (h6 : i ≤ B) (h7 : 0 ≤ B) : -(B + 1000000) ≤ awl k ans i v ∧ awl k ans i v ≤ B + 1000000 := by
  unfold awl
  (repeat' split) <;> omega
theorem sgm_list (L : List Int) : sgm (fun k => L.getD k.toNat 0) 0 (L.length : Int) = L := by
  unfold sgm
  apply List.ext_getElem?
  intro i
  rw [List.getElem?_map]
  by_cases h : i < L.length
  · rw [List.getElem?_range (by omega), Option.map_some, List.getElem?_eq_getElem h, show (0 : Int) + (i : Int) = (i : Int) by omega]
    dsimp only
    rw [Int.toNat_natCast, List.getD_eq_getElem?_getD, List.getElem?_eq_getElem h]
    rfl
  · rw [List.getElem?_eq_none (by rw [List.length_range]; omega), Option.map_none, List.getElem?_eq_none (by omega)]
section ASA
variable {G : hv} {s k : Int} {C : List Int} {b : Bool}
theorem avl_ok (w : wfG G) (ht : tyl true C [] = some [b]) {i : Nat} (hi : (i : Int) < nL G) : evl G s (i : Int) C [] = [avl G s C i] ∧ vok1 b (avl G s C i) := by
  have := tyl_ok w (q := true) (s := s) (lk := (i : Int)) (by omega) (by have := w.1.2.1; omega) (fun _ => by omega) C (k := []) (r := []) trivial ht
  unfold avl
  match h : evl G s (i : Int) C [], this with
  | [x], z => exact ⟨rfl, z.1⟩
theorem anl_rng (w : wfG G) (ht : tyl true C [] = some [b]) : ∀ i : Nat, (i : Int) ≤ nL G → -(1000000 * (i : Int) + 10) ≤ anl G s C k i ∧ anl G s C k i ≤ 1000000 * (i : Int) + 10
  | 0, _ => by unfold anl; split <;> omega
  | i + 1, h => by
    have ih := anl_rng w ht i (by omega)
    have v := vok_rng (avl_ok (s := s) w ht (i := i) (by omega)).2
    have l4 := w.1.2.1
    unfold anl
    have := awl_rng (k := k) (B := 1000000 * (i : Int) + 10) (i := (i : Int)) ih.1 ih.2 v.1 v.2 (by omega) (by omega) (by omega)
    omega
theorem withLock_ok {m : xm} {ans i v : Int} (h6 : ld m 6 3 = k) (hk0 : 0 ≤ k) (hk5 : k ≤ 5) (ha1 : -10000000 ≤ ans) (ha2 : ans ≤ 10000000) (hi0 : 0 ≤ i) (hi4 : i ≤ 4) (hv1 : -1000000 ≤ v) (hv2 : v ≤ 1000000) : cQ_withLock ans i v m = some (awl k ans i v, m) := by
  unfold cQ_withLock cQ_withLock_112 awl j_maxL j_minL
  rw [h6, w32_id (x := v) (by omega) (by omega), w32_id (x := i) (by omega) (by omega), w64_id (x := ans) (by omega) (by omega), w64_id (x := v) (by omega) (by omega)]
  simp only [xsw, Int.reduceAdd]
  by_cases c0 : k = 0
  · rw [if_pos c0, if_pos c0]
    by_cases d : ans = -1
    · rw [if_pos d]
      by_cases e : v = 0
      · rw [if_pos e, if_neg (by omega)]
      · rw [if_neg e, if_pos ⟨d, e⟩]
    · rw [if_neg d, if_neg (fun z => d z.1)]
  rw [if_neg c0, if_neg c0]
  by_cases c1 : k = 1
  · rw [if_pos c1, if_pos c1]
    by_cases e : v = 0
    · rw [if_pos e, if_neg (by omega)]
    · rw [if_neg e, if_pos e]
  rw [if_neg c1, if_neg c1]
  by_cases c4 : k = 4
  · rw [if_neg (by omega), if_neg (by omega), if_pos c4, if_pos c4]
    by_cases e : i = 0
    · rw [if_pos e, if_pos e]
    · rw [if_neg e, if_neg e]
      by_cases d : ans < v
      · rw [if_pos d, if_pos d, bnd_some]
      · rw [if_neg d, if_neg d, bnd_some]
  by_cases c5 : k = 5
  · rw [if_neg (by omega), if_neg (by omega), if_neg c4, if_pos c5, if_neg c4, if_pos c5]
    by_cases e : i = 0
    · rw [if_pos e, if_pos e]
    · rw [if_neg e, if_neg e]
      by_cases d : v < ans
      · rw [if_pos d, if_pos d, bnd_some]
      · rw [if_neg d, if_neg d, bnd_some]
  rw [if_neg c4, if_neg c5, if_neg c4, if_neg c5]
  by_cases c2 : k = 2
  · rw [if_pos c2]
  · rw [if_neg c2, if_pos (by omega)]
theorem answer_loop {h : Nat} (p : isH h) (w : wfG G) (hv : vs G s) (ht : tyl true C [] = some [b]) (hk0 : 0 ≤ k) (hk5 : k ≤ 5) : ∀ (r i f : Nat) {m : xm}, CH m h G → CD m 7 C → ld m 6 3 = k → ((i + r : Nat) : Int) = nL G → r < f → ∃ m', cQ_answer_26 h f s (anl G s C k i) (i : Int) m = some (anl G s C k (i + r), m') ∧ fr 7 m m' := by
  have l4 := w.1.2.1
  have hs := vs_s w.1 hv
  intro r
  induction r with
  | zero =>
    intro i f m H D h6 hi hf
    obtain ⟨f, rfl⟩ : ∃ f', f = f' + 1 := ⟨f - 1, by omega⟩
    have e : G 0 0 = nL G := rfl
    rw [cQ_answer_26, cH_count_ok p H (by decide) (by decide), bnd_some, e, w32_id (by omega) (by omega), w32_id (by omega) (by omega), if_pos (by omega)]
    exact ⟨m, rfl, fr_refl⟩
  | succ r ih =>
    intro i f m H D h6 hi hf
    obtain ⟨f, rfl⟩ : ∃ f', f = f' + 1 := ⟨f - 1, by omega⟩
    have e : G 0 0 = nL G := rfl
    have av := avl_ok (s := s) w ht (i := i) (by omega)
    have ar := anl_rng (s := s) (k := k) w ht i (by omega)
    have vr := vok_rng av.2
    obtain ⟨v, m1, a1, a2, a3, a4⟩ := cC_valueOf_ok (c := 7) p (Or.inr rfl) w (q := true) (s := s) (lk := (i : Int)) hv (fun _ => by omega) (by omega) (by omega) H (fm := 0) (to := (C.length : Int)) (b := b) (C := fun k => C.getD k.toNat 0) (by decide) (by omega) (by have := D.2.2; omega) (fun j g1 g2 => by
      have := D.2.1 j.toNat (by omega)
      rw [Int.toNat_of_nonneg g1] at this
      exact this) (by rw [sgm_list]; exact ht)
    rw [sgm_list, av.1] at a2
    cases a2
    have h63 : ld m1 6 3 = k := by rw [fr_ld a4 (by decide) (by decide), h6]
    obtain ⟨m2, b1, b2⟩ := ih (i + 1) f (m := m1) (fr_CH p (Or.inr rfl) a4 H) (CD_cg D (a4 7 2 (by decide) (by decide)) (fun k => a4 8 k (by omega) (by omega))) h63 (by omega) (by omega)
    rw [show ((i + 1 : Nat) : Int) = (i : Int) + 1 by omega] at b1
    refine ⟨m2, ?_, fr_trans a4 b2⟩
    unfold cC_valueOf at a1
    rw [cQ_answer_26, cH_count_ok p H (by decide) (by decide), bnd_some, e, w32_id (by omega) (by omega), w32_id (by omega) (by omega), if_neg (by omega)]
    unfold cC_size cC_valueOf
    rw [bnd_some, D.1, a1, bnd_some, withLock_ok h63 hk0 hk5 (by omega) (by omega) (by omega) (by omega) vr.1 vr.2, bnd_some, show i + (r + 1) = i + 1 + r by omega]
    exact b1
theorem cQ_answer_ok {h : Nat} {m : xm} (p : isH h) (w : wfG G) (hv : vs G s) (ht : tyl true C [] = some [b]) (hk0 : 0 ≤ k) (hk5 : k ≤ 5) (H : CH m h G) (D : CD m 7 C) (h6 : ld m 6 3 = k) : ∃ m', cQ_answer h s m = some (anl G s C k (nL G).toNat, m') ∧ fr 7 m m' := by
  have l0 := w.1.1
  have l4 := w.1.2.1
  obtain ⟨m', a1, a2⟩ := answer_loop p w hv ht hk0 hk5 (nL G).toNat 0 xLF H D h6 (by omega) (by rw [xLF_eq]; omega)
  rw [Nat.zero_add] at a1
  refine ⟨m', ?_, a2⟩
  unfold cQ_answer cQ_answer_15 cQ_answer_22
  rw [xlt_eq, xlt_eq, h6, ← a1]
  unfold anl
  by_cases c0 : k = 0
  · rw [if_pos c0, if_pos (by omega)]
    rfl
  rw [if_neg c0]
  by_cases c1 : k = 1
  · rw [if_pos c1, if_pos (by omega)]
    rfl
  rw [if_neg c1, if_neg (by omega)]
  rfl
/-! the reference's answer -/
theorem qTold_loop (w : wfG G) (hv : vs G s) {i : Int} (hi0 : 0 ≤ i) (hi1 : i < nL G) : ∀ (ts : List Int) {m : xm} {f : Nat} {k : Int} {kb : List Bool} {stk : List Int}, RH m G → NR m G s → 0 ≤ k → k + ts.length ≤ 1600 → ld m 78 84 = k + ts.length → (∀ j : Nat, j < ts.length → ld m 138 (k + j) = rtk (ts.getD j 0)) → tyl true ts kb = some [b] → vok kb stk → kb.length ≤ 64 → ld m 78 90 = stk.length → skl m stk → ts.length < f →
    ∃ v m', r_qTold_7 f i k m = some (v, m') ∧ evl G s i ts stk = [v] ∧ fq m m' := by
  have l4 := w.1.2.1
  intro ts
  induction ts with
  | nil =>
    intro m f k kb stk H N hk0 hk1 h84 _ ht hvk hkl htop hsk hf
    cases ht
    obtain ⟨f, rfl⟩ : ∃ f', f = f' + 1 := ⟨f - 1, by omega⟩
    rw [List.length_nil] at h84 hk1
    match stk, hvk, htop, hsk with
    | [x], hvk, htop, hsk =>
      rw [qTold_step, h84, w32_id (x := k) (by omega) (by omega), if_pos (by omega)]
      unfold r_qTold_168
      have h1 : ldl m 140 0 = x := hsk.1
      rw [lal_in (by decide) (by rw [al140]; decide), h1]
      exact ⟨x, m, rfl, rfl, fq_refl⟩
  | cons t ts ih =>
    intro m f k kb stk H N hk0 hk1 h84 hc1 ht hvk hkl htop hsk hf
    rw [List.length_cons] at hk1 h84 hf
    obtain ⟨f, rfl⟩ : ∃ f', f = f' + 1 := ⟨f - 1, by omega⟩
    have et : ld m 138 k = rtk t := by
      have := hc1 0 (by rw [List.length_cons]; omega)
      simpa using this
    unfold tyl at ht
    split at ht
    · next kb' hty =>
      split at ht
      · next hlen =>
        rw [qTold_step, h84, w32_id (x := k) (by omega) (by omega), if_neg (by omega), ial_in (by omega) (by rw [al138]; omega), et]
        obtain ⟨m1, e1, e2, e3, e4⟩ := rstep_ok w (q := true) (cl := true) (s := s) (lk := i) (i := i) hv (fun _ => ⟨rfl, hi0, hi1⟩) (by omega) (by omega) H N hty hlen hkl hvk htop hsk (fun m => r_qTold_7 f i (k + 1) m)
        have hvk' := tk_ok w (q := true) (lk := i) (by omega) (by omega) (fun _ => hi0) (s := s) hvk hty
        obtain ⟨v, m2, g1, g2, g4⟩ := ih (m := m1) (f := f) (k := k + 1) (fq_RH e2 H) (fq_NR e2 N) (by omega) (by omega) (by rw [fq_ld e2 (by omega) (by decide), h84]; omega) (fun j hj => by
          have := hc1 (j + 1) (by rw [List.length_cons]; omega)
          rw [fq_ld e2 (by omega) (by decide), show k + 1 + (j : Int) = k + ((j + 1 : Nat) : Int) by omega, this]
          rfl) ht hvk' hlen e3 e4 (by omega)
        rw [e1]
        exact ⟨v, m2, g1, g2, fq_trans e2 g4⟩
      · cases ht
    · cases ht
theorem r_qTold_ok (w : wfG G) (hv : vs G s) (ht : tyl true C [] = some [b]) {i : Nat} (hi1 : (i : Int) < nL G) {m : xm} (H : RH m G) (N : NR m G s) (h84 : ld m 78 84 = (C.length : Int)) (hC : C.length ≤ 1600) (hc : cdl m 138 (C.map rtk)) : ∃ m', r_qTold (i : Int) m = some (avl G s C i, m') ∧ fq m m' := by
  unfold r_qTold
  rw [stf_eq]
  obtain ⟨v, m', e1, e2, e3⟩ := qTold_loop w hv (i := (i : Int)) (by omega) hi1 C (m := st m 78 90 0) (f := xLF) (k := 0) (kb := []) (stk := []) (fq_RH fq_top H) (fq_NR fq_top N) (by decide) (by omega) (by rw [ld_st_ne (by decide), h84]; omega) (fun j hj => by
    have := hc j (by rw [List.length_map]; exact hj)
    rw [ld_st_nc (by decide), show (0 : Int) + (j : Int) = (j : Int) by omega, this, List.getD_eq_getElem?_getD, List.getElem?_map, List.getElem?_eq_getElem hj, List.getD_eq_getElem?_getD, List.getElem?_eq_getElem hj]
    rfl) ht trivial (by decide) (by rw [ld_st_eq]; rfl) trivial (by rw [xLF_eq]; omega)
  have av := avl_ok (s := s) w ht hi1
  rw [av.1] at e2
  cases e2
  exact ⟨m', e1, fq_trans fq_top e3⟩
theorem qTakes_ok {m : xm} {ans i v : Int} (hk0 : 0 ≤ k) (hk5 : k ≤ 5) (h91 : ldl m 78 91 = ans) (h92 : ld m 78 92 = if i = 0 then 1 else 0) (ha1 : -10000000 ≤ ans) (ha2 : ans ≤ 10000000) (hi0 : 0 ≤ i) (hi4 : i ≤ 4) (hv1 : -1000000 ≤ v) (hv2 : v ≤ 1000000) (hv3 : k ≤ 2 → v = 0 ∨ v = 1) : ∃ m', r_qTakes k v i m = some (0, m') ∧ ldl m' 78 91 = awl k ans i v ∧ ld m' 78 92 = 0 ∧ ∀ a j, ¬ (a = 78 ∧ (j = 91 ∨ j = 92)) → m' a j = m a j := by
  have wk : w32 k = k := w32_id (by omega) (by omega)
  have w64v : w64 v = v := w64_id (by omega) (by omega)
  have E133 : ∀ {m1 : xm} {x : Int}, ldl m1 78 91 = x → (∀ a j, ¬ (a = 78 ∧ (j = 91 ∨ j = 92)) → m1 a j = m a j) → ∃ m', r_qTakes_133 m1 = some (0, m') ∧ ldl m' 78 91 = x ∧ ld m' 78 92 = 0 ∧ ∀ a j, ¬ (a = 78 ∧ (j = 91 ∨ j = 92)) → m' a j = m a j := by
    intro m1 x h f
    unfold r_qTakes_133
    rw [stf_eq]
    exact ⟨_, rfl, by rw [ldl_st_ne (by decide), h], by rw [ld_st_eq]; rfl, fun a j g => by rw [st_at (by omega), f a j g]⟩
  have E128 : ∀ {m1 : xm}, (∀ a j, ¬ (a = 78 ∧ (j = 91 ∨ j = 92)) → m1 a j = m a j) → ∃ m', r_qTakes_128 v m1 = some (0, m') ∧ ldl m' 78 91 = v ∧ ld m' 78 92 = 0 ∧ ∀ a j, ¬ (a = 78 ∧ (j = 91 ∨ j = 92)) → m' a j = m a j := by
    intro m1 f
    unfold r_qTakes_128
    rw [stf_eq]
    exact E133 (by rw [ldl_st_eq, w64v]) (fun a j g => by rw [st_at (by omega), f a j g])
  have fr0 : ∀ a j, ¬ (a = 78 ∧ (j = 91 ∨ j = 92)) → m a j = m a j := fun _ _ _ => rfl
  unfold r_qTakes r_qTakes_15 r_qTakes_16
  rw [wk, w64v, xlt_eq, xlt_eq]
  by_cases c3 : 3 ≤ k
  · rw [if_pos c3, if_neg (by omega)]
    unfold r_qTakes_38 r_qTakes_55 r_qTakes_75
    rw [wk, if_neg (by omega), if_neg (by omega)]
    by_cases d3 : k = 3
    · rw [if_pos d3, stf_eq]
      unfold r_qTakes_90
      rw [wk, if_pos (by omega)]
      refine E133 ?_ (fun a j g => by rw [st_at (by omega)])
      unfold awl
      rw [ldl_st_eq, h91, if_neg (by omega), if_neg (by omega), if_neg (by omega), if_neg (by omega), w64_id (by omega) (by omega)]
    · rw [if_neg d3]
      have aw : awl k ans i v = if i = 0 then v else if k = 4 then (if ans < v then v else ans) else (if v < ans then v else ans) := by
        unfold awl
        rw [if_neg (show ¬ k = 0 by omega), if_neg (show ¬ k = 1 by omega)]
        by_cases e : i = 0
        · rw [if_pos e, if_pos e, if_pos e]
          by_cases d4 : k = 4
          · rw [if_pos d4]
          · rw [if_neg d4, if_pos (show k = 5 by omega)]
        · rw [if_neg e, if_neg e, if_neg e]
          by_cases d4 : k = 4
          · rw [if_pos d4, if_pos d4]
          · rw [if_neg d4, if_neg d4, if_pos (show k = 5 by omega)]
      rw [aw]
      unfold r_qTakes_90
      rw [wk, if_neg (show ¬ k ≤ 3 by omega), h92, h91, w64v]
      by_cases e : i = 0
      · rw [if_pos e, if_neg (show ¬ (1 : Int) = 0 by decide), if_pos e]
        exact E128 fr0
      · rw [if_neg e, if_pos (show (0 : Int) = 0 by rfl), if_neg e]
        by_cases d4 : k = 4
        · rw [if_pos d4, if_pos d4]
          by_cases g : ans < v
          · rw [if_neg (by omega), if_pos g]
            exact E128 fr0
          · rw [if_pos (by omega), if_neg g]
            exact E133 h91 fr0
        · rw [if_neg d4, if_neg d4]
          by_cases g : v < ans
          · rw [if_neg (by omega), if_pos g]
            exact E128 fr0
          · rw [if_pos (by omega), if_neg g]
            exact E133 h91 fr0
  · have v01 := hv3 (by omega)
    have E75 : ∀ {m1 : xm} {x : Int}, ldl m1 78 91 = x → (∀ a j, ¬ (a = 78 ∧ (j = 91 ∨ j = 92)) → m1 a j = m a j) → ∃ m', r_qTakes_75 k v m1 = some (0, m') ∧ ldl m' 78 91 = x ∧ ld m' 78 92 = 0 ∧ ∀ a j, ¬ (a = 78 ∧ (j = 91 ∨ j = 92)) → m' a j = m a j := by
      intro m1 x h f
      unfold r_qTakes_75 r_qTakes_90
      rw [wk, if_neg (by omega), if_pos (by omega)]
      exact E133 h f
    have E48 : k ≠ 2 → ∀ x5 : Int, ∃ m', r_qTakes_48 k v i x5 m = some (0, m') ∧ ldl m' 78 91 = i ∧ ld m' 78 92 = 0 ∧ ∀ a j, ¬ (a = 78 ∧ (j = 91 ∨ j = 92)) → m' a j = m a j := by
      intro k2 x5
      unfold r_qTakes_48 r_qTakes_55
      rw [stf_eq, wk, if_neg k2]
      exact E75 (by rw [ldl_st_eq, w32_id (by omega) (by omega), w64_id (by omega) (by omega)]) (fun a j g => by rw [st_at (by omega)])
    have E55 : k ≠ 2 → ∀ x5 : Int, ∃ m', r_qTakes_55 k v x5 m = some (0, m') ∧ ldl m' 78 91 = ans ∧ ld m' 78 92 = 0 ∧ ∀ a j, ¬ (a = 78 ∧ (j = 91 ∨ j = 92)) → m' a j = m a j := by
      intro k2 x5
      unfold r_qTakes_55
      rw [wk, if_neg k2]
      exact E75 h91 fr0
    rw [if_neg c3]
    unfold awl
    rw [h91]
    rcases v01 with rfl | rfl
    · rw [if_neg (by decide), if_pos (show w32 0 = 0 by rfl)]
      unfold r_qTakes_38
      rw [wk, if_pos (show w32 0 = 0 by rfl), ite_self, ite_self]
      by_cases k2 : k = 2
      · unfold r_qTakes_55
        rw [wk, if_pos k2, if_pos (by rfl), if_neg (by omega), if_neg (by omega), if_neg (by omega), if_neg (by omega), Int.add_zero]
        exact E75 h91 fr0
      · have : (if k = 0 then (if ans = -1 ∧ (0 : Int) ≠ 0 then i else ans) else if k = 1 then (if (0 : Int) ≠ 0 then i else ans) else if k = 4 then (if i = 0 then 0 else if ans < 0 then 0 else ans) else if k = 5 then (if i = 0 then 0 else if 0 < ans then 0 else ans) else ans + 0) = ans := by
          by_cases k0 : k = 0
          · rw [if_pos k0, if_neg (fun z => z.2 rfl)]
          · rw [if_neg k0, if_pos (by omega), if_neg (fun z => z rfl)]
        rw [this]
        exact E55 k2 0
    · rw [if_pos rfl, if_neg (show ¬ w32 1 = 0 by decide)]
      by_cases k0 : k = 0
      · rw [if_pos k0, if_pos k0]
        by_cases g : ans = -1
        · rw [if_pos g, if_pos ⟨g, by decide⟩]
          exact E48 (by omega) 1
        · rw [if_neg g, if_neg (fun z => g z.1)]
          unfold r_qTakes_38
          rw [wk, if_neg (by omega)]
          exact E55 (by omega) 1
      rw [if_neg k0, if_neg k0]
      unfold r_qTakes_38
      rw [wk]
      by_cases k1 : k = 1
      · rw [if_pos k1, if_pos k1, if_neg (by decide), if_pos (by decide)]
        exact E48 (by omega) 1
      · rw [if_neg k1, if_neg k1, if_neg (by omega), if_neg (by omega)]
        unfold r_qTakes_55
        rw [wk, if_pos (by omega), if_neg (by decide), stf_eq, h91]
        exact E75 (by rw [ldl_st_eq, w64_id (by omega) (by omega)]) (fun a j g => by rw [st_at (by omega)])
/-- cells of the reference's answer -/
def fAn (m m' : xm) : Prop := ∀ a k, ¬ (a = 78 ∧ 90 ≤ k ∧ k ≤ 92) → a ≠ 140 → m' a k = m a k
theorem ask_loop (w : wfG G) (hv : vs G s) (ht : tyl true C [] = some [b]) (hb : b = decide (k ≤ 2)) (hC : C.length ≤ 1600) (hk0 : 0 ≤ k) (hk5 : k ≤ 5) : ∀ (r i f : Nat) {m : xm}, RH m G → NR m G s → ld m 78 84 = (C.length : Int) → cdl m 138 (C.map rtk) → ldl m 78 91 = anl G s C k i → ld m 78 92 = (if (i : Int) = 0 then 1 else 0) → ((i + r : Nat) : Int) = nL G → r < f → ∃ m', r_ask_167 f k (i : Int) m = some (anl G s C k (i + r), m') ∧ fAn m m' := by
  have l4 := w.1.2.1
  intro r
  induction r with
  | zero =>
    intro i f m H N h84 hc h91 h92 hi hf
    obtain ⟨f, rfl⟩ : ∃ f', f = f' + 1 := ⟨f - 1, by omega⟩
    rw [r_ask_167, r_lockMany_ok H, bnd_some, w32_id (by omega) (by omega), w32_id (by omega) (by omega), if_pos (by omega)]
    unfold r_ask_192
    rw [h91]
    exact ⟨m, rfl, fun _ _ _ _ => rfl⟩
  | succ r ih =>
    intro i f m H N h84 hc h91 h92 hi hf
    obtain ⟨f, rfl⟩ : ∃ f', f = f' + 1 := ⟨f - 1, by omega⟩
    have av := avl_ok (s := s) w ht (i := i) (by omega)
    have ar := anl_rng (s := s) (k := k) w ht i (by omega)
    have vr := vok_rng av.2
    obtain ⟨m1, a1, a2⟩ := r_qTold_ok w hv ht (i := i) (by omega) H N h84 hC hc
    obtain ⟨m2, b1, b2, b3, b4⟩ := qTakes_ok (m := m1) (ans := anl G s C k i) (i := (i : Int)) (v := avl G s C i) hk0 hk5 (by rw [ldlq (a2 78 91 (by decide) (by decide))]; exact h91) (by rw [fq_ld a2 (by decide) (by decide)]; exact h92) (by omega) (by omega) (by omega) (by omega) vr.1 vr.2 (fun z => by
      have := av.2
      rw [hb, decide_eq_true z] at this
      exact this)
    have f2 : fAn m m2 := fun a j g1 g2 => by rw [b4 a j (by omega), a2 a j (by omega) g2]
    obtain ⟨m3, d1, d2⟩ := ih (i + 1) f (m := m2) (RH_cg H (fun a j g1 g2 _ => ldq (f2 a j (by omega) (by omega)))) (NR_cg N (fun j => ldq (f2 110 j (by omega) (by omega)))) (by rw [ldq (f2 78 84 (by omega) (by decide)), h84]) (cdl_cg hc (fun j _ => f2 138 j (by omega) (by decide))) b2 (by rw [b3, if_neg (by omega)]) (by omega) (by omega)
    rw [show ((i + 1 : Nat) : Int) = (i : Int) + 1 by omega] at d1
    refine ⟨m3, ?_, fun a j g1 g2 => by rw [d2 a j g1 g2, f2 a j g1 g2]⟩
    rw [r_ask_167, r_lockMany_ok H, bnd_some, w32_id (by omega) (by omega), w32_id (by omega) (by omega), if_neg (by omega), a1, bnd_some, b1, bnd_some, show i + (r + 1) = i + 1 + r by omega]
    exact d1
end ASA
