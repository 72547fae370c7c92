/-! starts -/
def fts (G : hv) (N D : Int → Int) (len : Int) : Nat → Int → Bool
  | 0, _ => true
  | r + 1, s => if cpb G s (N (len - ((r + 1 : Nat) : Int))) = true then (if od G (ag G (N (len - ((r + 1 : Nat) : Int))) s) = D (len - ((r + 1 : Nat) : Int)) then fts G N D len r (ag G (N (len - ((r + 1 : Nat) : Int))) s) else false) else false
theorem fits_loop {G : hv} {h : Nat} (p : isH h) (w : wfG G) (hD : wfD G) {N D : Int → Int} {len : Int} (h0 : 0 ≤ len) (h20 : len ≤ 20) (hN : ∀ i, 0 ≤ i → i < len → ntk G (N i) ∧ 0 ≤ D i ∧ D i ≤ bd (nD G)) : ∀ (r f : Nat) {m : xm} {s : Int}, (r : Int) ≤ len → r < f → CH m h G → CM m h G → vs G s → ld m 18 2 = len → (∀ i, 0 ≤ i → i < len → ld m 19 i = N i ∧ ld m 20 i = D i) → ∃ m', cE_fits_5 h f s (len - (r : Int)) m = some (if fts G N D len r s = true then 1 else 0, m') ∧ fo h m m' ∧ CM m' h G := by
  have pr := isH_rng p
  have gN := w.2.1
  have gD := bd_rng w.2.2.1.1 w.2.2.1.2
  intro r
  induction r with
  | zero =>
    intro f m s hr hf ch M hv h18 h19
    obtain ⟨f, rfl⟩ : ∃ f', f = f' + 1 := ⟨f - 1, by omega⟩
    rw [cE_fits_5, h18, w32_id (x := len - ((0 : Nat) : Int)) (by omega) (by omega), if_pos (by omega)]
    exact ⟨m, rfl, fo_refl, M⟩
  | succ r ih =>
    intro f m s hr hf ch M hv h18 h19
    obtain ⟨f, rfl⟩ : ∃ f', f = f' + 1 := ⟨f - 1, by omega⟩
    obtain ⟨k, hk⟩ : ∃ k, len - ((r + 1 : Nat) : Int) = k := ⟨_, rfl⟩
    obtain ⟨hnk, hd0, hd1⟩ := hN k (by omega) (by omega)
    have hnr : rg (N k) := by rcases hnk with z | z <;> unfold rg <;> omega
    have lk := h19 k (by omega) (by omega)
    rw [cE_fits_5, fts, hk, h18, w32_id (x := k) (by omega) (by omega), if_neg (by omega), cell_in (by omega) (by rw [al19]; omega), bnd_some, lk.1]
    by_cases q : cp G s (N k)
    · have va := vs_ag w.1 (n := N k) hv
      obtain ⟨m1, b1, b2, b3⟩ := cH_openDoors_ok p w hD va ch M
      have o := od_rng w hD (ag G (N k) s)
      have e20 : ld m1 20 k = D k := by rw [ld_cg (fo_out p b2 (by decide)), lk.2]
      rw [cH_canPlay_in p w ch hv q, bnd_some, if_neg (by decide), cH_after_ag p w ch hv hnk, bnd_some, b1, bnd_some, cell_in (by omega) (by rw [al20]; omega), bnd_some, e20, w32_id (x := od G (ag G (N k) s)) (by omega) (by omega), w32_id (x := D k) (by omega) (by omega), if_pos (cpb_iff.mpr q)]
      by_cases e : od G (ag G (N k) s) = D k
      · rw [if_pos e, if_pos e, show k + 1 = len - (r : Int) by omega]
        obtain ⟨m2, d1, d2, d3⟩ := ih f (m := m1) (s := ag G (N k) s) (by omega) (by omega) (fo_CH b2 ch) b3 va (by rw [ld_cg (fo_out p b2 (by decide))]; exact h18) (fun i z1 z2 => by rw [ld_cg (fo_out p b2 (by decide)), ld_cg (fo_out p b2 (by decide))]; exact h19 i z1 z2)
        exact ⟨m2, d1, fo_trans b2 d2, d3⟩
      · rw [if_neg e, if_neg e]
        exact ⟨m1, rfl, b2, b3⟩
    · rw [cH_canPlay_out p w ch hv (by rw [w32_rg hnr]; exact q), bnd_some, if_pos (by decide), if_neg (show ¬ (cpb G s (N k) = true) from fun z => q (cpb_iff.mp z))]
      exact ⟨m, rfl, fo_refl, M⟩
def f110 (m m' : xm) : Prop := ∀ a j, ¬ (a = 78 ∧ j = 90) → a ≠ 140 → a ≠ 110 → m' a j = m a j
theorem heard_loop {G : hv} (w : wfG G) (hD : wfD G) {N D : Int → Int} {len : Int} (h0 : 0 ≤ len) (h20 : len ≤ 20) (hN : ∀ i, 0 ≤ i → i < len → ntk G (N i) ∧ 0 ≤ D i ∧ D i ≤ bd (nD G)) : ∀ (r f : Nat) {m : xm} {s : Int}, (r : Int) ≤ len → r < f → RH m G → NR m G s → vs G s → ld m 78 58 = len → (∀ i, 0 ≤ i → i < len → ld m 117 (2 * i) = N i ∧ ld m 117 (2 * i + 1) = D i) → ∃ m', r_isHeardFrom_7 f (len - (r : Int)) m = some (if fts G N D len r s = true then 1 else 0, m') ∧ f110 m m' := by
  have gN := w.2.1
  have gD := bd_rng w.2.2.1.1 w.2.2.1.2
  intro r
  induction r with
  | zero =>
    intro f m s hr hf H hn hv h58 h117
    obtain ⟨f, rfl⟩ : ∃ f', f = f' + 1 := ⟨f - 1, by omega⟩
    rw [r_isHeardFrom_7, h58, w32_id (x := len - ((0 : Nat) : Int)) (by omega) (by omega), if_pos (by omega)]
    exact ⟨m, rfl, fun _ _ _ _ _ => rfl⟩
  | succ r ih =>
    intro f m s hr hf H hn hv h58 h117
    obtain ⟨f, rfl⟩ : ∃ f', f = f' + 1 := ⟨f - 1, by omega⟩
    obtain ⟨k, hk⟩ : ∃ k, len - ((r + 1 : Nat) : Int) = k := ⟨_, rfl⟩
    obtain ⟨hnk, hd0, hd1⟩ := hN k (by omega) (by omega)
    have lk := h117 k (by omega) (by omega)
    have rc := r_canPlay_ok w H hv hn (n := N k) hnk
    rw [r_isHeardFrom_7, fts, hk, h58, w32_id (x := k) (by omega) (by omega), if_neg (by omega), ial_in (by omega) (by rw [al117]; omega), lk.1]
    by_cases q : cp G s (N k)
    · have va := vs_ag w.1 (n := N k) hv
      obtain ⟨m2, d1, d2, d3⟩ := r_turns_ok w H hv hn hnk
      obtain ⟨m3, e1, e2⟩ := r_openNow_ok w hD va (fn_RH d3 H) d2
      have o := od_rng w hD (ag G (N k) s)
      have fa : f110 m m3 := fun a j z1 z2 z3 => by rw [e2 a j z1 z2, d3 a j (fun y => z3 y.1)]
      rw [rc.1 q, bnd_some, if_neg (by decide), ial_in (by omega) (by rw [al117]; omega), lk.1, d1, bnd_some, e1, bnd_some, ial_in (by omega) (by rw [al117]; omega), ldq (fa 117 (2 * k + 1) (by omega) (by decide) (by decide)), lk.2, w32_id (x := od G (ag G (N k) s)) (by omega) (by omega), w32_id (x := D k) (by omega) (by omega), if_pos (cpb_iff.mpr q)]
      by_cases e : od G (ag G (N k) s) = D k
      · rw [if_pos e, if_pos e, show k + 1 = len - (r : Int) by omega]
        obtain ⟨m4, g1, g2⟩ := ih f (m := m3) (s := ag G (N k) s) (by omega) (by omega) (fq_RH e2 (fn_RH d3 H)) (fq_NR e2 d2) va (by rw [ldq (fa 78 58 (by decide) (by decide) (by decide))]; exact h58) (fun i z1 z2 => by rw [ldq (fa 117 _ (by omega) (by decide) (by decide)), ldq (fa 117 _ (by omega) (by decide) (by decide))]; exact h117 i z1 z2)
        exact ⟨m4, g1, fun a j z1 z2 z3 => by rw [g2 a j z1 z2 z3, fa a j z1 z2 z3]⟩
      · rw [if_neg e, if_neg e]
        exact ⟨m3, rfl, fa⟩
    · rw [rc.2 q, bnd_some, if_pos (by decide), if_neg (show ¬ (cpb G s (N k) = true) from fun z => q (cpb_iff.mp z))]
      exact ⟨m, rfl, fun _ _ _ _ _ => rfl⟩
/-- how many, the first, the last -/
def sta (F : Int → Bool) (n : Int) : Nat → Int × Int × Int → Int × Int × Int
  | 0, t => t
  | r + 1, t => sta F n r (if F (n - ((r + 1 : Nat) : Int)) = true then (t.1 + 1, if t.2.1 = -1 then n - ((r + 1 : Nat) : Int) else t.2.1, n - ((r + 1 : Nat) : Int)) else t)
def pick (v : Int) (t : Int × Int × Int) : Int := if v = 0 then t.1 else if v = 1 then t.2.1 else t.2.2
theorem vs_low {G : hv} (w : wfS G) {s : Int} (h1 : 0 ≤ s) (h2 : s < wy G) : vs G s := by
  unfold vs
  rw [show jm G s = 0 from Int.ediv_eq_zero_of_lt h1 h2]
  have := p2_le w.1 w.2.1
  omega
theorem starts_loop {G : hv} {h : Nat} (p : isH h) (w : wfG G) (hD : wfD G) {N D : Int → Int} {len v : Int} (h0 : 0 ≤ len) (h20 : len ≤ 20) (hv0 : 0 ≤ v) (hv2 : v ≤ 2) (hN : ∀ i, 0 ≤ i → i < len → ntk G (N i) ∧ 0 ≤ D i ∧ D i ≤ bd (nD G)) : ∀ (r f : Nat) {m : xm} {t : Int × Int × Int}, (r : Int) ≤ wy G → r < f → hl m 12 = h → CH m h G → CM m h G → ld m 18 2 = len → (∀ i, 0 ≤ i → i < len → ld m 19 i = N i ∧ ld m 20 i = D i) → -1 ≤ t.2.1 → t.2.1 ≤ 1000 → ∃ m', cL_starts_31 f v t.1 t.2.1 t.2.2 (wy G - (r : Int)) m = some (pick v (sta (fts G N D len len.toNat) (wy G) r t), m') ∧ fo h m m' ∧ CM m' h G := by
  have pr := isH_rng p
  have wr := wy_rng w.1
  intro r
  induction r with
  | zero =>
    intro f m t hr hf hh ch M h18 h19 ht1 ht2
    obtain ⟨f, rfl⟩ : ∃ f', f = f' + 1 := ⟨f - 1, by omega⟩
    rw [cL_starts_31]
    unfold cH_ways
    rw [hh, bnd_some, ch_wy ch, w32_id (x := wy G) (by omega) (by omega), w32_id (x := wy G - ((0 : Nat) : Int)) (by omega) (by omega), if_pos (by omega)]
    unfold cL_starts_92 sta pick
    rw [w32_id (x := v) (by omega) (by omega)]
    refine ⟨m, ?_, fo_refl, M⟩
    by_cases e0 : v = 0
    · rw [if_pos e0, if_pos e0]
    · rw [if_neg e0, if_neg e0]
      by_cases e1 : v = 1
      · rw [if_pos e1, if_pos e1]
      · rw [if_neg e1, if_neg e1]
  | succ r ih =>
    intro f m t hr hf hh ch M h18 h19 ht1 ht2
    obtain ⟨f, rfl⟩ : ∃ f', f = f' + 1 := ⟨f - 1, by omega⟩
    obtain ⟨k, hk⟩ : ∃ k, wy G - ((r + 1 : Nat) : Int) = k := ⟨_, rfl⟩
    have vk := vs_low w.1 (s := k) (by omega) (by omega)
    obtain ⟨m1, b1, b2, b3⟩ := fits_loop p w hD h0 h20 hN len.toNat xLF (m := m) (s := k) (by omega) (by rw [xLF_eq]; omega) ch M vk h18 h19
    rw [show len - (len.toNat : Int) = 0 by omega] at b1
    have hh1 : hl m1 12 = h := by rw [hl_cg (by rw [fo_out p b2 (by decide)]), hh]
    have go : ∀ {u : Int × Int × Int}, -1 ≤ u.2.1 → u.2.1 ≤ 1000 → ∃ m', cL_starts_86 (fun v1 v2 v3 v4 v5 m => cL_starts_31 f v1 v2 v3 v4 v5 m) v u.1 u.2.1 u.2.2 k m1 = some (pick v (sta (fts G N D len len.toNat) (wy G) r u), m') ∧ fo h m m' ∧ CM m' h G := by
      intro u u1 u2
      obtain ⟨m2, d1, d2, d3⟩ := ih f (m := m1) (t := u) (by omega) (by omega) hh1 (fo_CH b2 ch) b3 (by rw [ld_cg (fo_out p b2 (by decide))]; exact h18) (fun i z1 z2 => by rw [ld_cg (fo_out p b2 (by decide)), ld_cg (fo_out p b2 (by decide))]; exact h19 i z1 z2) u1 u2
      refine ⟨m2, ?_, fo_trans b2 d2, d3⟩
      unfold cL_starts_86
      rw [show k + 1 = wy G - (r : Int) by omega]
      exact d1
    rw [cL_starts_31, sta, hk]
    unfold cH_ways cE_fits
    rw [hh, bnd_some, ch_wy ch, w32_id (x := wy G) (by omega) (by omega), w32_id (x := k) (by omega) (by omega), if_neg (by omega), if_neg (by omega), hh, b1, bnd_some]
    by_cases q : fts G N D len len.toNat k = true
    · rw [if_pos q, if_pos q, if_neg (by decide), w32_id (x := t.2.1) (by omega) (by omega)]
      unfold cL_starts_81
      rw [xlt_eq, xlt_eq]
      by_cases e : t.2.1 = -1
      · rw [if_pos e, if_pos e]
        exact go (u := (t.1 + 1, k, k)) (by dsimp only; omega) (by dsimp only; omega)
      · rw [if_neg e, if_neg e]
        exact go (u := (t.1 + 1, t.2.1, k)) ht1 ht2
    · rw [if_neg q, if_neg q, if_pos (by decide)]
      exact go (u := t) ht1 ht2
theorem r_starts_loop {G : hv} (w : wfG G) (hD : wfD G) {N D : Int → Int} {len v : Int} (h0 : 0 ≤ len) (h20 : len ≤ 20) (hv0 : 0 ≤ v) (hv2 : v ≤ 2) (hN : ∀ i, 0 ≤ i → i < len → ntk G (N i) ∧ 0 ≤ D i ∧ D i ≤ bd (nD G)) : ∀ (r f : Nat) {m : xm} {t : Int × Int × Int}, (r : Int) ≤ wy G → r < f → RH m G → ld m 78 58 = len → (∀ i, 0 ≤ i → i < len → ld m 117 (2 * i) = N i ∧ ld m 117 (2 * i + 1) = D i) → -1 ≤ t.2.1 → t.2.1 ≤ 1000 → ∃ m', r_starts_35 f v t.1 t.2.1 t.2.2 (wy G - (r : Int)) m = some (pick v (sta (fts G N D len len.toNat) (wy G) r t), m') ∧ f110 m m' ∧ ∀ i, 0 ≤ i → i < 127 → ld m' 110 i = ld m 111 i := by
  have wr := wy_rng w.1
  intro r
  induction r with
  | zero =>
    intro f m t hr hf H h58 h117 ht1 ht2
    obtain ⟨f, rfl⟩ : ∃ f', f = f' + 1 := ⟨f - 1, by omega⟩
    obtain ⟨m1, b1, b2, b3⟩ := r_takesBack_ok m
    rw [r_starts_35, r_wardWays_ok w H, bnd_some, w32_id (x := wy G) (by omega) (by omega), w32_id (x := wy G - ((0 : Nat) : Int)) (by omega) (by omega), if_pos (by omega)]
    unfold r_starts_77 sta pick
    rw [b1, bnd_some, w32_id (x := v) (by omega) (by omega)]
    refine ⟨m1, ?_, fun a j _ _ z3 => b3 a j z3, b2⟩
    by_cases e0 : v = 0
    · rw [if_pos e0, if_pos e0]
    · rw [if_neg e0, if_neg e0]
      by_cases e1 : v = 1
      · rw [if_pos e1, if_pos e1]
      · rw [if_neg e1, if_neg e1]
  | succ r ih =>
    intro f m t hr hf H h58 h117 ht1 ht2
    obtain ⟨f, rfl⟩ : ∃ f', f = f' + 1 := ⟨f - 1, by omega⟩
    obtain ⟨k, hk⟩ : ∃ k, wy G - ((r + 1 : Nat) : Int) = k := ⟨_, rfl⟩
    have vk := vs_low w.1 (s := k) (by omega) (by omega)
    obtain ⟨m0, c1, c2, c3⟩ := r_isState_ok w H vk
    obtain ⟨m1, b1, b2⟩ := heard_loop w hD h0 h20 hN len.toNat xLF (m := m0) (s := k) (by omega) (by rw [xLF_eq]; omega) (fn_RH c3 H) c2 vk (by rw [ldq (c3 78 58 (by decide))]; exact h58) (fun i z1 z2 => by rw [ldq (c3 117 _ (by omega)), ldq (c3 117 _ (by omega))]; exact h117 i z1 z2)
    rw [show len - (len.toNat : Int) = 0 by omega] at b1
    have fa : f110 m m1 := fun a j z1 z2 z3 => by rw [b2 a j z1 z2 z3, c3 a j (fun y => z3 y.1)]
    have go : ∀ {u : Int × Int × Int}, -1 ≤ u.2.1 → u.2.1 ≤ 1000 → ∃ m', r_starts_71 (fun v1 v2 v3 v4 v5 m => r_starts_35 f v1 v2 v3 v4 v5 m) v u.1 u.2.1 u.2.2 k m1 = some (pick v (sta (fts G N D len len.toNat) (wy G) r u), m') ∧ f110 m m' ∧ ∀ i, 0 ≤ i → i < 127 → ld m' 110 i = ld m 111 i := by
      intro u u1 u2
      obtain ⟨m2, d1, d2, d3⟩ := ih f (m := m1) (t := u) (by omega) (by omega) (RH_cg H (fun a j z1 z2 _ => ldq (fa a j (by omega) (by omega) (by omega)))) (by rw [ldq (fa 78 58 (by decide) (by decide) (by decide))]; exact h58) (fun i z1 z2 => by rw [ldq (fa 117 _ (by omega) (by decide) (by decide)), ldq (fa 117 _ (by omega) (by decide) (by decide))]; exact h117 i z1 z2) u1 u2
      refine ⟨m2, ?_, fun a j z1 z2 z3 => by rw [d2 a j z1 z2 z3, fa a j z1 z2 z3], fun i z1 z2 => by rw [d3 i z1 z2, ldq (fa 111 i (by omega) (by decide) (by decide))]⟩
      unfold r_starts_71
      rw [show k + 1 = wy G - (r : Int) by omega]
      exact d1
    rw [r_starts_35, sta, hk]
    unfold r_isHeardFrom
    rw [r_wardWays_ok w H, bnd_some, w32_id (x := wy G) (by omega) (by omega), w32_id (x := k) (by omega) (by omega), if_neg (by omega), c1, bnd_some, b1, bnd_some]
    by_cases q : fts G N D len len.toNat k = true
    · rw [if_pos q, if_pos q, if_neg (by decide), w32_id (x := t.2.1) (by omega) (by omega)]
      unfold r_starts_67
      by_cases e : t.2.1 = -1
      · rw [if_pos e, if_pos e]
        exact go (u := (t.1 + 1, k, k)) (by dsimp only; omega) (by dsimp only; omega)
      · rw [if_neg e, if_neg e]
        exact go (u := (t.1 + 1, t.2.1, k)) ht1 ht2
    · rw [if_neg q, if_neg q, if_pos (by decide)]
      exact go (u := t) ht1 ht2
theorem ok_starts {v : Int} (hv : rg v) : okI (cL_starts v) (r_starts v) := by
  intro m hi
  obtain ⟨G, H⟩ := hi
  have H0 : IG m G := H
  obtain ⟨⟨w, hD, -, c, M, r, -⟩, S0, P0, T, -, R, HH, JJ, LL, II, E⟩ := H0
  obtain ⟨h, hh⟩ : ∃ h, hl m 12 = h := ⟨_, rfl⟩
  have p := hl_or m 12
  rw [hh] at p c M
  have pr := isH_rng p
  have v1 := hv.1
  have v2 := hv.2
  have wr := wy_rng w.1
  have HH0 := HH
  obtain ⟨e1, e2, e3, e4⟩ := HH
  by_cases q1 : ld m 18 2 = 0
  · refine ⟨-1, m, -1, m, ?_, ?_, rfl, ⟨G, H⟩⟩
    · unfold cL_starts cE_rows
      rw [bnd_some, w32_ld, if_pos q1]
    · unfold r_starts
      rw [← e1, if_pos q1]
  · by_cases q2 : 0 ≤ v ∧ v ≤ 2
    · have hN : ∀ i, 0 ≤ i → i < ld m 18 2 → ntk G (ld m 19 i) ∧ 0 ≤ ld m 20 i ∧ ld m 20 i ≤ bd (nD G) := fun i z1 z2 => by
        have := e4 i z1 z2
        exact ⟨this.1.2, this.2.2⟩
      obtain ⟨mA, a1, a2, a3⟩ := starts_loop p w hD (N := fun i => ld m 19 i) (D := fun i => ld m 20 i) (len := ld m 18 2) (v := v) e2 e3 q2.1 q2.2 hN (wy G).toNat xLF (m := m) (t := (0, -1, -1)) (by omega) (by rw [xLF_eq]; omega) hh c M rfl (fun _ _ _ => ⟨rfl, rfl⟩) (by decide) (by decide)
      rw [show wy G - ((wy G).toNat : Int) = 0 by omega] at a1
      obtain ⟨X, hX⟩ : ∃ X, pick v (sta (fts G (fun i => ld m 19 i) (fun i => ld m 20 i) (ld m 18 2) (ld m 18 2).toNat) (wy G) (wy G).toNat (0, -1, -1)) = X := ⟨_, rfl⟩
      have eC : cL_starts v m = some (X, mA) := by
        unfold cL_starts cE_rows
        rw [bnd_some, w32_ld, if_neg q1, w32_rg hv, if_neg (by omega), if_pos q2.2, ← hX]
        exact a1
      have frR : ∀ a, 78 ≤ a → mA a = m a := fun a z => fo_out p a2 (Or.inr z)
      obtain ⟨mB, b1, b2, b3⟩ := r_putsAside_ok mA
      have rB : RH mB G := RH_cg r (fun a k g1 _ _ => by rw [ldq (b3 a k (by omega)), ld_cg (frR a (by omega))])
      obtain ⟨mF, d1, d2, d3⟩ := r_starts_loop w hD (N := fun i => ld m 19 i) (D := fun i => ld m 20 i) (len := ld m 18 2) (v := v) e2 e3 q2.1 q2.2 hN (wy G).toNat xLF (m := mB) (t := (0, -1, -1)) (by omega) (by rw [xLF_eq]; omega) rB (by rw [ldq (b3 78 58 (by decide)), ld_cg (frR 78 (by decide)), ← e1]) (fun i z1 z2 => by
        have := e4 i z1 z2
        rw [ldq (b3 117 _ (by decide)), ldq (b3 117 _ (by decide)), ld_cg (frR 117 (by decide)), ld_cg (frR 117 (by decide))]
        exact ⟨this.1.1.symm, this.2.1.symm⟩) (by decide) (by decide)
      rw [show wy G - ((wy G).toNat : Int) = 0 by omega] at d1
      have eR : r_starts v mA = some (X, mF) := by
        unfold r_starts
        rw [ld_cg (frR 78 (by decide)), ← e1, if_neg q1, w32_rg hv, r_isIn_ok (by omega) (by omega) (by omega) (by omega) (by omega) (by omega), bnd_some, if_pos q2, if_neg (by decide), b1, bnd_some, ← hX]
        exact d1
      have fF : ∀ a j, ¬ (a = 78 ∧ j = 90) → a ≠ 140 → a ≠ 110 → a ≠ 111 → mF a j = mA a j := fun a j z1 z2 z3 z4 => by rw [d2 a j z1 z2 z3, b3 a j z4]
      have fr : ∀ a k, ¬ scr a k → a ≠ 110 → ¬ (a = h + 1 ∧ k = 3) → a ≠ h + 3 → a ≠ h + 14 → mF a k = m a k := fun a k y1 y2 y3 y4 y5 => by
        unfold scr at y1
        rw [fF a k (by omega) (by omega) y2 (by omega), a2 a k y3 y4 y5]
      refine ⟨_, mA, _, mF, eC, eR, rfl, ⟨G, IG_qry hh H (fun a k z => fr a k (fun q => z (by unfold qset; simp [q])) (fun q => z (by unfold qset; simp [q])) (fun q => z (by unfold qset; simp [q])) (fun q => z (by unfold qset; simp [q])) (fun q => z (by unfold qset; simp [q]))) (CM_cg a3 (fun k => fF _ k (by omega) (by omega) (by omega) (by omega))) (fun k z1 z2 => by rw [d3 k z1 z2, b2 k z1 z2, ld_cg (frR 110 (by decide))]) (TP_cg T ?_) (RF_cg R ?_) (HE_cg HH0 ?_) (JU_cg JJ ?_) (SL_cg LL ?_) (IM_cg II ?_)⟩⟩
      · exact fun a k z => by unfold fTP at z; exact fr a k (by unfold scr; omega) (by omega) (by omega) (by omega) (by omega)
      · exact fun a k z => by unfold fRF at z; exact fr a k (by unfold scr; omega) (by omega) (by omega) (by omega) (by omega)
      · exact fun a k z => by unfold fHE at z; exact fr a k (by unfold scr; omega) (by omega) (by omega) (by omega) (by omega)
      · exact fun a k z => by unfold fJU at z; exact fr a k (by unfold scr; omega) (by omega) (by omega) (by omega) (by omega)
      · exact fun a k z => by unfold fSL at z; exact fr a k (by unfold scr; omega) (by omega) (by omega) (by omega) (by omega)
      · exact fun a k z => by unfold fIM at z; exact fr a k (by unfold scr; omega) (by omega) (by omega) (by omega) (by omega)
    · refine ⟨-1, m, -1, m, ?_, ?_, rfl, ⟨G, H⟩⟩
      · unfold cL_starts cE_rows
        rw [bnd_some, w32_ld, if_neg q1, w32_rg hv]
        by_cases z : v < 0
        · rw [if_pos z]
        · rw [if_neg z, if_neg (by omega)]
      · unfold r_starts
        rw [← e1, if_neg q1, w32_rg hv, r_isIn_ok (by omega) (by omega) (by omega) (by omega) (by omega) (by omega), bnd_some, if_neg q2, if_pos (by decide)]
