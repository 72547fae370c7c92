/-! states in the reference -/
def pp (G : hv) : Nat → Int
  | 0 => 1
  | k + 1 => pp G k * wx G (k : Int)
theorem pp4 (G : hv) : pp G 4 = wy G := by
  show 1 * wx G 0 * wx G 1 * wx G 2 * wx G 3 = wy G
  unfold wy
  rw [Int.one_mul]
theorem pp_top {G : hv} (w : wfS G) : ∀ j : Nat, (nL G).toNat + j ≤ 4 → pp G ((nL G).toNat + j) = pp G (nL G).toNat
  | 0, _ => rfl
  | j + 1, h => by
    have g := w.1
    rw [← Nat.add_assoc, pp, wx_out (by omega), Int.mul_one]
    exact pp_top w j (by omega)
theorem pp_wy {G : hv} (w : wfS G) : pp G (nL G).toNat = wy G := by
  have g1 := w.1
  have g2 := w.2.1
  have := pp_top w (4 - (nL G).toNat) (by omega)
  rw [show (nL G).toNat + (4 - (nL G).toNat) = 4 by omega, pp4] at this
  exact this.symm
theorem wardWays_loop {m : xm} {G : hv} (w : wfG G) (H : RH m G) : ∀ (f k : Nat), (k : Int) ≤ nL G → (nL G).toNat - k < f → r_wardWays_4 f (pp G k) (k : Int) m = some (wy G, m) := by
  have gL := w.1.2.1
  intro f
  induction f with
  | zero => intro k _ hf; omega
  | succ f ih =>
    intro k hk hf
    rw [r_wardWays_4, r_lockMany_ok H, bnd_some, w32_id (x := nL G) (by omega) (by omega), w32_id (x := (k : Int)) (by omega) (by omega)]
    by_cases e : nL G ≤ (k : Int)
    · rw [if_pos e, show k = (nL G).toNat by omega, pp_wy w.1]
    · rw [if_neg e, r_wardsOf_ok w.1 H (by omega) (by omega), bnd_some, xlt_eq]
      exact ih (k + 1) (by omega) (by omega)
theorem r_wardWays_ok {m : xm} {G : hv} (w : wfG G) (H : RH m G) : r_wardWays m = some (wy G, m) := by
  have g1 := w.1.1
  have g2 := w.1.2.1
  exact wardWays_loop w H xLF 0 (by omega) (by rw [xLF_eq]; omega)
theorem wy_rng {G : hv} (w : wfS G) : 1 ≤ wy G ∧ wy G ≤ 625 := by
  have h0 := wx_pos w 0
  have h1 := wx_pos w 1
  have h2 := wx_pos w 2
  have h3 := wx_pos w 3
  have a := mul_rng h0.1 h0.2 h1.1 h1.2
  have b := mul_rng a.1 a.2 h2.1 h2.2
  have c := mul_rng b.1 b.2 h3.1 h3.2
  unfold wy
  omega
/-- what is left of a state after k locks -/
def tl (G : hv) (s : Int) : Nat → Int
  | 0 => s % wy G
  | k + 1 => tl G s k / wx G (k : Int)
theorem tl_ok {G : hv} (w : wfS G) (s : Int) : tl G s 0 = wd G s 0 + wx G 0 * (wd G s 1 + wx G 1 * (wd G s 2 + wx G 2 * wd G s 3)) ∧ tl G s 1 = wd G s 1 + wx G 1 * (wd G s 2 + wx G 2 * wd G s 3) ∧ tl G s 2 = wd G s 2 + wx G 2 * wd G s 3 ∧ tl G s 3 = wd G s 3 := by
  have e0 : tl G s 0 = wd G s 0 + wx G 0 * (wd G s 1 + wx G 1 * (wd G s 2 + wx G 2 * wd G s 3)) := by
    have h := mkS_of w s
    have e := Int.emod_add_mul_ediv s (wy G)
    have j : s / wy G = jm G s := rfl
    rw [j] at e
    unfold mkS mk4 at h
    show s % wy G = _
    unfold wy at e ⊢
    grind
  have r0 := wd_rng w s 0
  have r1 := wd_rng w s 1
  have r2 := wd_rng w s 2
  have e1 : tl G s 1 = wd G s 1 + wx G 1 * (wd G s 2 + wx G 2 * wd G s 3) := by
    show tl G s 0 / wx G 0 = _
    rw [e0, mk_div r0.1 r0.2]
  have e2 : tl G s 2 = wd G s 2 + wx G 2 * wd G s 3 := by
    show tl G s 1 / wx G 1 = _
    rw [e1, mk_div r1.1 r1.2]
  have e3 : tl G s 3 = wd G s 3 := by
    show tl G s 2 / wx G 2 = _
    rw [e2, mk_div r2.1 r2.2]
  exact ⟨e0, e1, e2, e3⟩
theorem tl_mod {G : hv} (w : wfS G) (s : Int) {k : Nat} (hk : k < 4) : tl G s k % wx G (k : Int) = wd G s (k : Int) := by
  obtain ⟨e0, e1, e2, e3⟩ := tl_ok w s
  have r0 := wd_rng w s 0
  have r1 := wd_rng w s 1
  have r2 := wd_rng w s 2
  have r3 := wd_rng w s 3
  have hk4 : k = 0 ∨ k = 1 ∨ k = 2 ∨ k = 3 := by omega
  rcases hk4 with rfl | rfl | rfl | rfl
  · rw [e0]; exact mk_mod r0.1 r0.2
  · rw [e1]; exact mk_mod r1.1 r1.2
  · rw [e2]; exact mk_mod r2.1 r2.2
  · rw [e3]; exact Int.emod_eq_of_lt r3.1 r3.2
theorem tl_rng {G : hv} (w : wfS G) (s : Int) : ∀ k : Nat, 0 ≤ tl G s k ∧ tl G s k < 625
  | 0 => by
    have := wy_rng w
    have h1 := Int.emod_nonneg s (show wy G ≠ 0 by omega)
    have h2 := Int.emod_lt_of_pos s (show 0 < wy G by omega)
    unfold tl
    omega
  | k + 1 => by
    have q := tl_rng w s k
    have x := wx_pos w (k : Int)
    unfold tl
    have h1 := Int.ediv_nonneg q.1 (show 0 ≤ wx G (k : Int) by omega)
    have h2 := Int.ediv_le_self (wx G (k : Int)) q.1
    omega
theorem isState_loop {G : hv} (w : wfG G) {m0 : xm} (H : RH m0 G) {s : Int} (hv : vs G s) : ∀ (f k : Nat) {m : xm}, (k : Int) ≤ nL G → (nL G).toNat - k < f → fn m0 m → (∀ l, 0 ≤ l → l < (k : Int) → ld m 110 (1 + l) = wd G s l) → ∃ m', r_isState_9 f s (tl G s k) (k : Int) m = some (0, m') ∧ NR m' G s ∧ fn m0 m' := by
  have gL := w.1.2.1
  have a110 : aln 110 = 127 := rfl
  intro f
  induction f with
  | zero => intro k m _ hf; omega
  | succ f ih =>
    intro k m hk hf fr hw
    have rm : RH m G := fn_RH fr H
    rw [r_isState_9, r_lockMany_ok rm, bnd_some, w32_id (x := nL G) (by omega) (by omega), w32_id (x := (k : Int)) (by omega) (by omega)]
    by_cases e : nL G ≤ (k : Int)
    · have wr := wy_rng w.1
      have sr := vs_s w.1 hv
      have jr := vs_j w.1 hv
      rw [if_pos e]
      unfold r_isState_46
      rw [r_wardWays_ok w rm, bnd_some, w32_id (x := wy G) (by omega) (by omega), if_neg (by omega), idv_nn sr.1 (by omega) (by omega) (by omega), ias_in (by decide) (by rw [a110]; decide), show s / wy G = jm G s from rfl]
      refine ⟨_, rfl, ⟨fun l z1 z2 => ?_, ?_⟩, fn_trans fr (fn_st (by decide) (by decide))⟩
      · rw [ld_st_ne (by omega)]
        exact hw l z1 (by omega)
      · rw [ld_st_eq, w32_id (by omega) (by omega)]
    · have wp := wx_pos w.1 (k : Int)
      have tr := tl_rng w.1 s k
      have r1 : RH (st m 110 (1 + (k : Int)) (wd G s (k : Int))) G := fn_RH (fn_trans fr (fn_st (by omega) (by omega))) H
      have wr := wd_rng w.1 s (k : Int)
      rw [if_neg e, r_wardsOf_ok w.1 rm (by omega) (by omega), bnd_some, w32_id (x := wx G (k : Int)) (by omega) (by omega), if_neg (by omega), irm_nn tr.1 (by omega) (by omega) (by omega), tl_mod w.1 s (by omega), ias_in (by omega) (by rw [a110]; omega), r_wardsOf_ok w.1 r1 (by omega) (by omega), bnd_some, w32_id (x := wx G (k : Int)) (by omega) (by omega), if_neg (by omega), idv_nn tr.1 (by omega) (by omega) (by omega), xlt_eq]
      refine ih (k + 1) (by omega) (by omega) (fn_trans fr (fn_st (by omega) (by omega))) (fun l z1 z2 => ?_)
      by_cases el : l = (k : Int)
      · rw [el, ld_st_eq, w32_id (by omega) (by omega)]
      · rw [ld_st_ne (by omega)]
        exact hw l z1 (by omega)
theorem r_isState_ok {m : xm} {G : hv} (w : wfG G) (H : RH m G) {s : Int} (hv : vs G s) : ∃ m', r_isState s m = some (0, m') ∧ NR m' G s ∧ fn m m' := by
  have g1 := w.1.1
  have g2 := w.1.2.1
  have wr := wy_rng w.1
  have sr := vs_s w.1 hv
  unfold r_isState
  rw [r_wardWays_ok w H, bnd_some, w32_id (x := wy G) (by omega) (by omega), if_neg (by omega), irm_nn sr.1 (by omega) (by omega) (by omega), xlt_eq]
  exact isState_loop w H hv xLF 0 (by omega) (by rw [xLF_eq]; omega) fn_refl (fun l z1 z2 => by omega)
/-- from the last lock down -/
def hr (G : hv) (s : Int) : Nat → Int
  | 0 => 0
  | r + 1 => hr G s r * wx G (3 - (r : Int)) + wd G s (3 - (r : Int))
theorem hr0 {G : hv} (w : wfS G) (s : Int) : ∀ r : Nat, (r : Int) ≤ 4 - nL G → hr G s r = 0
  | 0, _ => rfl
  | r + 1, h => by
    have x : wx G (3 - (r : Int)) = 1 := wx_out (by omega)
    have d := wd_rng w s (3 - (r : Int))
    rw [x] at d
    unfold hr
    rw [hr0 w s r (by omega), x]
    omega
theorem stateNow_loop {m : xm} {G : hv} (w : wfG G) (H : RH m G) {s : Int} (N : NR m G s) : ∀ (f r : Nat), (r : Int) ≤ nL G → r < f → r_stateNow_9 f (hr G s (4 - r)) ((r : Int) - 1) m = some (s, m) := by
  have gL := w.1.2.1
  intro f
  induction f with
  | zero => intro r _ hf; omega
  | succ f ih =>
    intro r hr1 hf
    rw [r_stateNow_9, w32_id (x := (r : Int) - 1) (by omega) (by omega)]
    by_cases e : r = 0
    · subst e
      rw [if_pos (by decide)]
      unfold r_stateNow_33
      rw [r_wardWays_ok w H, bnd_some, r_jammedNow_ok N, bnd_some]
      have : hr G s (4 - 0) + wy G * jm G s = s := by
        have h := mkS_of w.1 s
        unfold mkS mk4 at h
        show ((((0 * wx G 3 + wd G s 3) * wx G 2 + wd G s 2) * wx G 1 + wd G s 1) * wx G 0 + wd G s 0) + wy G * jm G s = s
        unfold wy
        grind
      rw [this]
    · obtain ⟨r, rfl⟩ : ∃ r', r = r' + 1 := ⟨r - 1, by omega⟩
      rw [if_neg (by omega), show (((r + 1 : Nat) : Int) - 1) = (r : Int) by omega, r_wardsOf_ok w.1 H (by omega) (by omega), bnd_some, r_wardNow_ok w.1 N (by omega) (by omega), bnd_some, xlt_eq]
      have : hr G s (4 - (r + 1)) * wx G (r : Int) + wd G s (r : Int) = hr G s (4 - r) := by
        rw [show 4 - r = (4 - (r + 1)) + 1 by omega, hr, show (3 : Int) - ((4 - (r + 1) : Nat) : Int) = (r : Int) by omega]
      rw [this]
      exact ih r (by omega) (by omega)
theorem r_stateNow_ok {m : xm} {G : hv} (w : wfG G) (H : RH m G) {s : Int} (N : NR m G s) : r_stateNow m = some (s, m) := by
  have g1 := w.1.1
  have g2 := w.1.2.1
  have q := stateNow_loop w H N xLF (nL G).toNat (by omega) (by rw [xLF_eq]; omega)
  rw [hr0 w.1 s (4 - (nL G).toNat) (by omega), show ((nL G).toNat : Int) = nL G by omega] at q
  unfold r_stateNow
  rw [r_lockMany_ok H, bnd_some, xlt_eq]
  exact q
