/-! the reference's acts -/
def fR (m m' : xm) : Prop := ∀ a k, a ≠ 110 → ¬ (a = 78 ∧ k = 90) → a ≠ 140 → m' a k = m a k
theorem fR_refl {m : xm} : fR m m := fun _ _ _ _ _ => rfl
theorem fR_trans {m1 m2 m3 : xm} (h1 : fR m1 m2) (h2 : fR m2 m3) : fR m1 m3 := fun a k g1 g2 g3 => by rw [h2 a k g1 g2 g3, h1 a k g1 g2 g3]
theorem fR_fq {m m' : xm} (f : fq m m') : fR m m' := fun a k _ g2 g3 => f a k g2 g3
theorem fR_fn {m m' : xm} (f : fn m m') : fR m m' := fun a k g1 _ _ => f a k (fun z => g1 z.1)
theorem fR_st {m : xm} {k v : Int} : fR m (st m 110 k v) := fun a j g _ _ => st_at (fun z => g z.1)
theorem fR_RH {m m' : xm} {G : hv} (f : fR m m') (H : RH m G) : RH m' G := RH_cg H (fun a k g1 g2 _ => ldq (f a k (by omega) (by omega) (by omega)))
theorem SR_NR {m : xm} {G : hv} {S : sn} (h : SR m G 110 0 S) : NR m G S.1 := ⟨fun l g1 g2 => by have := h.1 l g1 g2; rwa [show (0 : Int) + 1 + l = 1 + l by omega] at this, h.2.1⟩
theorem SR_fq {m m' : xm} {G : hv} {S : sn} (f : fq m m') (h : SR m G 110 0 S) : SR m' G 110 0 S := by
  have e : ∀ k, ld m' 110 k = ld m 110 k := fun k => fq_ld f (by omega) (by decide)
  unfold SR
  simp only [e]
  exact h
/-- a row for one more is free at the end -/
def SRx (m : xm) (G : hv) (s pl : Int) (L : List Int) : Prop := (∀ l, 0 ≤ l → l < nL G → ld m 110 (1 + l) = wd G s l) ∧ ld m 110 5 = jm G s ∧ ld m 110 0 = pl ∧ ld m 110 6 = (L.length + 1 : Nat) ∧
  ∀ i : Nat, i < L.length → ld m 110 (7 + 3 * (i : Int)) = L.getD i 0 / 16 ∧ ld m 110 (8 + 3 * (i : Int)) = L.getD i 0 / 2 % 8 ∧ ld m 110 (9 + 3 * (i : Int)) = L.getD i 0 % 2
theorem keep_87 {m : xm} {G : hv} {s pl : Int} {L : List Int} {b a d : Int} (hL : nL G ≤ 4) (hp : 0 ≤ pl) (hp2 : pl ≤ 9999) (ha : 0 ≤ a) (ha2 : a < 64) (hd : 0 ≤ d) (hd2 : d < 6) (hl : L.length < 40) (h : SRx m G s pl L) (k7 : Int → Int → Int → xm → xr) : ∃ m', r_keepsDoors_87 k7 b a d m = k7 b a (d + 1) m' ∧ fR m m' ∧ SR m' G 110 0 (s, pl, L ++ [16 * pl + 2 * d + bt a d]) := by
  obtain ⟨h1, h2, h3, h4, h5⟩ := h
  have hb := bt_01 a d
  unfold r_keepsDoors_87 r_keepsDoors_140
  rw [ial_in (by decide) (by rw [al110]; decide), h4, xlt_eq, ial_in (by decide) (by rw [al110]; decide), h3, ias_in (by omega) (by rw [al110]; omega), ias_in (by omega) (by rw [al110]; omega), ias_in (by omega) (by rw [al110]; omega), bt_shr ha (by omega) hd (by omega)]
  have hi : 7 + 3 * ((L.length + 1 : Nat) : Int) - 3 = 7 + 3 * (L.length : Int) := by omega
  rw [hi]
  refine ⟨_, rfl, fR_trans fR_st (fR_trans fR_st fR_st), fun l g1 g2 => ?_, ?_, ?_, ?_, fun i hi => ?_⟩
  · rw [ld_st_ne (by omega), ld_st_ne (by omega), ld_st_ne (by omega), show (0 : Int) + 1 + l = 1 + l by omega]
    exact h1 l g1 g2
  · rw [ld_st_ne (by omega), ld_st_ne (by omega), ld_st_ne (by omega)]
    exact h2
  · rw [ld_st_ne (by omega), ld_st_ne (by omega), ld_st_ne (by omega)]
    exact h3
  · rw [show (0 : Int) + 6 = 6 by rfl, ld_st_ne (by omega), ld_st_ne (by omega), ld_st_ne (by omega), h4]
    simp
  · dsimp only at hi ⊢
    rw [List.length_append, List.length_singleton] at hi
    rw [getD_app, show (0 : Int) + 7 + 3 * (i : Int) = 7 + 3 * (i : Int) by omega, show (0 : Int) + 8 + 3 * (i : Int) = 8 + 3 * (i : Int) by omega, show (0 : Int) + 9 + 3 * (i : Int) = 9 + 3 * (i : Int) by omega]
    by_cases hi2 : i < L.length
    · rw [if_pos hi2, ld_st_ne (by omega), ld_st_ne (by omega), ld_st_ne (by omega), ld_st_ne (by omega), ld_st_ne (by omega), ld_st_ne (by omega), ld_st_ne (by omega), ld_st_ne (by omega), ld_st_ne (by omega)]
      exact h5 i hi2
    · have : i = L.length := by omega
      subst this
      rw [if_neg hi2, if_pos rfl]
      refine ⟨?_, ?_, ?_⟩
      · rw [ld_st_ne (by omega), ld_st_ne (by omega), ld_st_eq, w32_id (by omega) (by omega)]
        omega
      · rw [ld_st_ne (by omega), show 8 + 3 * (L.length : Int) = 7 + 3 * (L.length : Int) + 1 by omega, ld_st_eq, w32_id (by omega) (by omega)]
        omega
      · rw [show 9 + 3 * (L.length : Int) = 7 + 3 * (L.length : Int) + 2 by omega, ld_st_eq, w32_id (by omega) (by omega)]
        omega
theorem keep_shift {b a d : Int} {m0 : xm} (k7 : Int → Int → Int → xm → xr) : ∀ (f k : Nat) {m : xm}, 7 ≤ k → k ≤ 124 → 124 - k < f → (∀ i, 7 ≤ i → i < (k : Int) → ld m 110 i = ld m0 110 (i + 3)) → (∀ i, ¬ (7 ≤ i ∧ i < (k : Int)) → m 110 i = m0 110 i) → (∀ x i, x ≠ 110 → m x i = m0 x i) → ∃ m', r_keepsDoors_44 k7 f b a d (k : Int) m = r_keepsDoors_87 k7 b a d m' ∧ (∀ i, 7 ≤ i → i < 124 → ld m' 110 i = ld m0 110 (i + 3)) ∧ (∀ i, ¬ (7 ≤ i ∧ i < 124) → m' 110 i = m0 110 i) ∧ ∀ x i, x ≠ 110 → m' x i = m0 x i := by
  intro f
  induction f with
  | zero => intro k m _ _ hf; omega
  | succ f ih =>
    intro k m hk7 hk hf h1 h2 h3
    rw [r_keepsDoors_44, w32_id (x := (k : Int)) (by omega) (by omega)]
    by_cases he : k = 124
    · subst he
      rw [if_pos (by decide)]
      exact ⟨m, rfl, h1, h2, h3⟩
    · rw [if_neg (by omega), ial_in (by omega) (by rw [al110]; omega), ias_in (by omega) (by rw [al110]; omega)]
      refine ih (k + 1) (m := st m 110 (k : Int) (ld m 110 ((k : Int) + 3))) (by omega) (by omega) (by omega) (fun i g1 g2 => ?_) (fun i g => by rw [st_at (by omega)]; exact h2 i (by omega)) (fun x i g => by rw [st_at (fun z => g z.1)]; exact h3 x i g)
      by_cases hik : i = (k : Int)
      · rw [hik, ld_st_eq, w32_ld, ldq (h2 _ (by omega))]
      · rw [ld_st_ne hik]
        exact h1 i g1 (by omega)
theorem keepsDoors_loop {G : hv} {s pl b a : Int} {L : List Int} (w : wfG G) (hp : 0 ≤ pl) (hp2 : pl ≤ 9999) (hb : 0 ≤ b) (hb2 : b < 64) (ha : 0 ≤ a) (ha2 : a < 64) (hL : L.length ≤ 40) (hx : ∀ x ∈ L, 0 ≤ x ∧ x ≤ 160000 ∧ x / 2 % 8 ≤ 5 ∧ x / 16 ≤ 9999) : ∀ (f k : Nat) {m : xm}, (k : Int) ≤ nD G → (nD G).toNat - k < f → RH m G → SR m G 110 0 (s, pl, kd pl b a k L) → ∃ m', r_keepsDoors_7 f b a (k : Int) m = some (0, m') ∧ fR m m' ∧ SR m' G 110 0 (s, pl, kd pl b a (nD G).toNat L) := by
  have gD := w.2.2.1
  have gL := w.1.2.1
  intro f
  induction f with
  | zero => intro k m _ hf; omega
  | succ f ih =>
    intro k m hk hf H hS
    rw [r_keepsDoors_7, r_doorMany_ok H, bnd_some, w32_id (x := (k : Int)) (by omega) (by omega), w32_id (x := nD G) (by omega) (by omega)]
    by_cases he : nD G ≤ (k : Int)
    · rw [if_pos he]
      have : k = (nD G).toNat := by omega
      subst this
      exact ⟨m, rfl, fR_refl, hS⟩
    · rw [if_neg he, bxo_bt ha ha2 hb hb2 (by omega) (by omega)]
      by_cases c : bt b k = bt a k
      · rw [if_pos c.symm, if_pos rfl]
        refine ih (k + 1) (by omega) (by omega) H ?_
        unfold kd
        rw [if_pos c]
        exact hS
      · have hkd := kd_ok hp hp2 (b := b) (a := a) k (L := L) (by omega) hL hx
        have hbt := bt_01 a k
        rw [if_neg (show ¬ bt a (k : Int) = bt b (k : Int) from fun z => c z.symm), if_neg (by decide), ial_in (by decide) (by rw [al110]; decide)]
        obtain ⟨h1, h2, h3, h4, h5⟩ := hS
        dsimp only at h1 h2 h3 h4 h5
        simp only [Int.zero_add] at h1 h2 h3 h4 h5
        rw [h4, w32_id (x := ((kd pl b a k L).length : Int)) (by omega) (by omega)]
        have fin : ∀ m1, fR m m1 → SR m1 G 110 0 (s, pl, addK (kd pl b a k L) (16 * pl + 2 * (k : Int) + bt a k)) → ∃ m', r_keepsDoors_7 f b a ((k : Int) + 1) m1 = some (0, m') ∧ fR m m' ∧ SR m' G 110 0 (s, pl, kd pl b a (nD G).toNat L) := by
          intro m1 q1 q2
          obtain ⟨m2, g1, g2, g3⟩ := ih (k + 1) (m := m1) (by omega) (by omega) (fR_RH q1 H) (by
            unfold kd
            rw [if_neg c]
            exact q2)
          exact ⟨m2, g1, fR_trans q1 g2, g3⟩
        by_cases c40 : (kd pl b a k L).length = 40
        · rw [if_pos (by omega)]
          obtain ⟨m1, e1, e2, e3, e4⟩ := keep_shift (b := b) (a := a) (d := (k : Int)) (m0 := m) (fun v1 v2 v3 m => r_keepsDoors_7 f v1 v2 v3 m) xLF 7 (m := m) (by decide) (by decide) (by rw [xLF_eq]; decide) (fun i g1 g2 => by omega) (fun _ _ => rfl) (fun _ _ _ => rfl)
          have e1' : r_keepsDoors_44 (fun v1 v2 v3 m => r_keepsDoors_7 f v1 v2 v3 m) xLF b a (k : Int) 7 m = r_keepsDoors_87 (fun v1 v2 v3 m => r_keepsDoors_7 f v1 v2 v3 m) b a (k : Int) m1 := e1
          have hld : ((kd pl b a k L).drop 1).length = 39 := by rw [List.length_drop]; omega
          have e0 : ∀ i, ¬ (7 ≤ i ∧ i < 124) → ld m1 110 i = ld m 110 i := fun i g => ldq (e3 i g)
          obtain ⟨m2, g1, g2, g3⟩ := keep_87 (G := G) (s := s) (pl := pl) (L := (kd pl b a k L).drop 1) (b := b) (a := a) (d := (k : Int)) gL hp hp2 ha ha2 (by omega) (by omega) (by omega) (m := m1) ⟨fun l z1 z2 => by rw [e0 _ (by omega)]; exact h1 l z1 z2, by rw [e0 _ (by decide)]; exact h2, by rw [e0 _ (by decide)]; exact h3, by rw [e0 _ (by decide), h4, hld]; omega, fun i hi => by
            rw [hld] at hi
            rw [getD_drop, e2 _ (by omega) (by omega), e2 _ (by omega) (by omega), e2 _ (by omega) (by omega)]
            have := h5 (i + 1) (by omega)
            rw [show 7 + 3 * (i : Int) + 3 = 7 + 3 * ((i + 1 : Nat) : Int) by omega, show 8 + 3 * (i : Int) + 3 = 8 + 3 * ((i + 1 : Nat) : Int) by omega, show 9 + 3 * (i : Int) + 3 = 9 + 3 * ((i + 1 : Nat) : Int) by omega]
            exact this⟩ (fun v1 v2 v3 m => r_keepsDoors_7 f v1 v2 v3 m)
          rw [e1', g1]
          refine fin m2 (fR_trans (fun a k q1 _ _ => e4 a k q1) g2) ?_
          unfold addK
          rw [if_neg (by omega)]
          exact g3
        · rw [if_neg (by omega), ial_in (by decide) (by rw [al110]; decide), h4, ias_in (by decide) (by rw [al110]; decide)]
          obtain ⟨m2, g1, g2, g3⟩ := keep_87 (G := G) (s := s) (pl := pl) (L := kd pl b a k L) (b := b) (a := a) (d := (k : Int)) gL hp hp2 ha ha2 (by omega) (by omega) (by omega) (m := st m 110 6 (((kd pl b a k L).length : Int) + 1)) ⟨fun l z1 z2 => by rw [ld_st_ne (by omega)]; exact h1 l z1 z2, by rw [ld_st_ne (by decide)]; exact h2, by rw [ld_st_ne (by decide)]; exact h3, by rw [ld_st_eq, w32_id (by omega) (by omega)]; omega, fun i hi => by
            rw [ld_st_ne (by omega), ld_st_ne (by omega), ld_st_ne (by omega)]
            exact h5 i hi⟩ (fun v1 v2 v3 m => r_keepsDoors_7 f v1 v2 v3 m)
          rw [g1]
          refine fin m2 (fR_trans fR_st g2) ?_
          unfold addK
          rw [if_pos (by omega)]
          exact g3
theorem bt_hi {x d : Int} {n : Nat} (h1 : 0 ≤ x) (h2 : x < 2 ^ n) (h3 : (n : Int) ≤ d) : bt x d = 0 := by
  unfold bt
  have : (2 : Int) ^ n ≤ 2 ^ d.toNat := by
    have := Nat.pow_le_pow_right (show 2 > 0 by decide) (show n ≤ d.toNat by omega)
    exact_mod_cast this
  rw [Int.ediv_eq_zero_of_lt h1 (by omega)]
  rfl
/-- doors that there are not are neither opened nor shut -/
theorem kd_nD {G : hv} (w : wfG G) (hD : wfD G) {pl s t : Int} {L : List Int} : kd pl (od G s) (od G t) (nD G).toNat L = kd pl (od G s) (od G t) 6 L := by
  have gD := w.2.2.1
  have r1 := odl_rng w hD s (nD G).toNat (by omega)
  have r2 := odl_rng w hD t (nD G).toNat (by omega)
  have key : ∀ k : Nat, kd pl (od G s) (od G t) ((nD G).toNat + k) L = kd pl (od G s) (od G t) (nD G).toNat L := by
    intro k
    induction k with
    | zero => rfl
    | succ k ih =>
      have e1 : bt (od G s) (((nD G).toNat + k : Nat) : Int) = 0 := bt_hi (n := (nD G).toNat) r1.1 r1.2 (by omega)
      have e2 : bt (od G t) (((nD G).toNat + k : Nat) : Int) = 0 := bt_hi (n := (nD G).toNat) r2.1 r2.2 (by omega)
      rw [show (nD G).toNat + (k + 1) = ((nD G).toNat + k) + 1 by omega, kd, if_pos (by rw [e1, e2]), ih]
  have := key (6 - (nD G).toNat)
  rw [show (nD G).toNat + (6 - (nD G).toNat) = 6 by omega] at this
  exact this.symm
theorem r_keepsDoors_ok {m : xm} {G : hv} (w : wfG G) (hD : wfD G) (H : RH m G) {s t pl : Int} {L : List Int} (hS : okS G (t, pl, L)) (c : SR m G 110 0 (t, pl, L)) : ∃ m', r_keepsDoors (od G s) m = some (0, m') ∧ fR m m' ∧ SR m' G 110 0 (t, pl, kd pl (od G s) (od G t) 6 L) := by
  obtain ⟨k1, k2, k3, k4⟩ := hS
  dsimp only at k1 k2 k3 k4
  have gD := w.2.2.1
  have o1 := od_rng w hD s
  have o2 := od_rng w hD t
  obtain ⟨m1, e1, e2⟩ := r_openNow_ok w hD k1 H (SR_NR c)
  unfold r_keepsDoors
  rw [e1, bnd_some]
  obtain ⟨m2, g1, g2, g3⟩ := keepsDoors_loop w k2.1 k2.2 o1.1 o1.2 o2.1 o2.2 k3 k4 xLF 0 (m := m1) (by omega) (by rw [xLF_eq]; omega) (fq_RH e2 H) (SR_fq e2 c)
  rw [kd_nD w hD] at g3
  exact ⟨m2, g1, fR_trans (fR_fq e2) g2, g3⟩
theorem r_isPlayed_ok {m : xm} {G : hv} (w : wfG G) (hD : wfD G) (H : RH m G) {S : sn} (hS : okS G S) (c : SR m G 110 0 S) {n : Int} (hn : n = 6 ∨ (0 ≤ n ∧ n < nN G)) : ∃ m', r_isPlayed n m = some (0, m') ∧ fR m m' ∧ SR m' G 110 0 (plS G n S) := by
  obtain ⟨s, pl, L⟩ := S
  have hS0 := hS
  obtain ⟨k1, k2, k3, k4⟩ := hS
  dsimp only at k1 k2 k3 k4
  have gL := w.1.2.1
  obtain ⟨m1, e1, e2⟩ := r_openNow_ok w hD k1 H (SR_NR c)
  have c1 := SR_fq e2 c
  obtain ⟨m2, g1, g2, g3⟩ := r_turns_ok w (fq_RH e2 H) k1 (SR_NR c1) hn
  have e5 : ∀ k, ¬ (1 ≤ k ∧ k ≤ 5) → ld m2 110 k = ld m1 110 k := fun k z => ldq (g3 110 k (by omega))
  have f2 : fR m m2 := fR_trans (fR_fq e2) (fR_fn g3)
  have c2 : SR m2 G 110 0 (ag G n s, pl, L) := by
    obtain ⟨z1, z2, z3, z4, z5⟩ := c1
    refine ⟨fun l q1 q2 => by rw [show (0 : Int) + 1 + l = 1 + l by omega]; exact g2.1 l q1 q2, g2.2, by rw [e5 _ (by decide)]; exact z3, by rw [e5 _ (by decide)]; exact z4, fun i hi => by rw [e5 _ (by omega), e5 _ (by omega), e5 _ (by omega)]; exact z5 i hi⟩
  have hp : ld m2 110 0 = pl := c2.2.2.1
  have hva := vs_ag w.1 (n := n) k1
  unfold r_isPlayed r_isPlayed_32
  rw [e1, bnd_some, g1, bnd_some, ial_in (by decide) (by rw [al110]; decide), hp, w32_id (x := pl) (by omega) (by omega)]
  by_cases c9 : 9999 ≤ pl
  · rw [if_pos c9]
    have ep : (if pl < 9999 then pl + 1 else pl) = pl := by rw [if_neg (by omega)]
    obtain ⟨m3, q1, q2, q3⟩ := r_keepsDoors_ok w hD (fR_RH f2 H) (s := s) (t := ag G n s) (pl := pl) (L := L) ⟨hva, k2, k3, k4⟩ c2
    rw [q1, bnd_some]
    refine ⟨m3, rfl, fR_trans f2 q2, ?_⟩
    unfold plS
    dsimp only
    rw [ep]
    exact q3
  · have ep : (if pl < 9999 then pl + 1 else pl) = pl + 1 := by rw [if_pos (by omega)]
    rw [if_neg c9, ial_in (by decide) (by rw [al110]; decide), hp, ias_in (by decide) (by rw [al110]; decide)]
    have c3 : SR (st m2 110 0 (pl + 1)) G 110 0 (ag G n s, pl + 1, L) := by
      obtain ⟨z1, z2, z3, z4, z5⟩ := c2
      refine ⟨fun l q1 q2 => by rw [ld_st_ne (by omega)]; exact z1 l q1 q2, by rw [ld_st_ne (by decide)]; exact z2, by rw [ld_st_eq, w32_id (by omega) (by omega)], by rw [ld_st_ne (by decide)]; exact z4, fun i hi => by rw [ld_st_ne (by omega), ld_st_ne (by omega), ld_st_ne (by omega)]; exact z5 i hi⟩
    obtain ⟨m3, q1, q2, q3⟩ := r_keepsDoors_ok w hD (fR_RH (fR_trans f2 fR_st) H) (s := s) (t := ag G n s) (pl := pl + 1) (L := L) ⟨hva, ⟨by dsimp only; omega, by dsimp only; omega⟩, k3, k4⟩ c3
    rw [q1, bnd_some]
    refine ⟨m3, rfl, fR_trans f2 (fR_trans fR_st q2), ?_⟩
    unfold plS
    dsimp only
    rw [ep]
    exact q3
