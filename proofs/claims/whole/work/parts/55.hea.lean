/-! hear -/
def rwo (G : hv) (B : Int → Int) (i : Int) : Prop := ntk G (B (2 * i)) ∧ 0 ≤ B (2 * i + 1) ∧ B (2 * i + 1) ≤ bd (nD G)
theorem hear_chk {m : xm} {h : Nat} {G : hv} (p : isH h) (w : wfG G) (c : CH m h G) {n : Int} (h0 : 0 ≤ n) (h20 : n ≤ 20) (h2n : 2 * n = ld m 1 1) (hb : ∀ i, 0 ≤ i → i < ld m 1 1 → 0 ≤ ld m 2 i ∧ ld m 2 i ≤ 255) : ∀ (r f : Nat), (r : Int) ≤ n → r + 1 < f → ((∀ i, n - (r : Int) ≤ i → i < n → rwo G (fun k => ld m 2 k) i) → cE_take_37 h f n 1 (n - (r : Int)) m = cE_take_105 h n 1 m) ∧ (¬ (∀ i, n - (r : Int) ≤ i → i < n → rwo G (fun k => ld m 2 k) i) → cE_take_37 h f n 1 (n - (r : Int)) m = cE_take_105 h n 0 m) := by
  have gN := w.2.1
  have gD := bd_rng w.2.2.1.1 w.2.2.1.2
  intro r
  induction r with
  | zero =>
    intro f hr hf
    obtain ⟨f, rfl⟩ : ∃ f', f = f' + 1 := ⟨f - 1, by omega⟩
    rw [cE_take_37, w32_id (x := n) (by omega) (by omega), w32_id (x := n - ((0 : Nat) : Int)) (by omega) (by omega), if_pos (by omega)]
    exact ⟨fun _ => rfl, fun z => absurd (fun i g1 g2 => by omega) z⟩
  | succ r ih =>
    intro f hr hf
    obtain ⟨f, rfl⟩ : ∃ f', f = f' + 1 := ⟨f - 1, by omega⟩
    obtain ⟨k, hk⟩ : ∃ k, n - ((r + 1 : Nat) : Int) = k := ⟨_, rfl⟩
    have b1 := hb (2 * k) (by omega) (by omega)
    have b2 := hb (2 * k + 1) (by omega) (by omega)
    have q := ih f (by omega) (by omega)
    have bad : ¬ rwo G (fun k => ld m 2 k) k → cE_take_97 h (fun v3 v4 v5 m => cE_take_37 h f v3 v4 v5 m) n k 0 m = cE_take_105 h n 0 m := by
      intro _
      unfold cE_take_97
      obtain ⟨f, rfl⟩ : ∃ f', f = f' + 1 := ⟨f - 1, by omega⟩
      show cE_take_37 h (f + 1) n 0 (k + 1) m = _
      rw [cE_take_37, if_pos (show w32 0 = 0 by decide)]
      split <;> rfl
    rw [hk, cE_take_37, w32_id (x := n) (by omega) (by omega), w32_id (x := k) (by omega) (by omega), if_neg (by omega), if_neg (by decide), cT_byteAt_ok (by omega) (by omega) (by omega), bnd_some, w32_id (x := ld m 2 (2 * k)) (by omega) (by omega)]
    have s75 : ntk G (ld m 2 (2 * k)) → ((∀ i, k ≤ i → i < n → rwo G (fun k => ld m 2 k) i) → cE_take_75 h (fun v3 v4 v5 m => cE_take_37 h f v3 v4 v5 m) n k m = cE_take_105 h n 1 m) ∧ (¬ (∀ i, k ≤ i → i < n → rwo G (fun k => ld m 2 k) i) → cE_take_75 h (fun v3 v4 v5 m => cE_take_37 h f v3 v4 v5 m) n k m = cE_take_105 h n 0 m) := by
      intro hn
      unfold cE_take_75
      rw [cT_byteAt_ok (by omega) (by omega) (by omega), bnd_some, cH_areDoors_ok p w c, bnd_some, w32_id (x := ld m 2 (2 * k + 1)) (by omega) (by omega)]
      by_cases d : 0 ≤ ld m 2 (2 * k + 1) ∧ ld m 2 (2 * k + 1) ≤ bd (nD G)
      · rw [if_pos d, if_neg (by decide)]
        unfold cE_take_97
        rw [xlt_eq, show k + 1 = n - (r : Int) by omega]
        refine ⟨fun z => q.1 (fun i g1 g2 => z i (by omega) g2), fun z => q.2 (fun y => z (fun i g1 g2 => ?_))⟩
        by_cases e : i = k
        · rw [e]; exact ⟨hn, d⟩
        · exact y i (by omega) g2
      · have nb : ¬ rwo G (fun k => ld m 2 k) k := fun y => d y.2
        rw [if_neg d, if_pos (by decide)]
        unfold cE_take_96
        rw [bad nb]
        exact ⟨fun z => absurd (z k (by omega) (by omega)) nb, fun _ => rfl⟩
    by_cases h6 : ld m 2 (2 * k) = 6
    · rw [if_pos h6]
      exact s75 (Or.inl h6)
    · rw [if_neg h6, cH_isOne_k p w c (by decide) (by decide) ⟨by omega, by omega⟩, bnd_some]
      by_cases hn : 0 ≤ ld m 2 (2 * k) ∧ ld m 2 (2 * k) < nN G
      · rw [if_pos (show 0 ≤ ld m 2 (2 * k) ∧ ld m 2 (2 * k) < G 0 1 from hn), if_neg (by decide)]
        exact s75 (Or.inr hn)
      · have nb : ¬ rwo G (fun k => ld m 2 k) k := fun y => by
          rcases y.1 with y | y
          · exact h6 y
          · exact hn y
        rw [if_neg (show ¬ (0 ≤ ld m 2 (2 * k) ∧ ld m 2 (2 * k) < G 0 1) from hn), if_pos (by decide)]
        unfold cE_take_96
        rw [bad nb]
        exact ⟨fun z => absurd (z k (by omega) (by omega)) nb, fun _ => rfl⟩
def fHt (m m' : xm) : Prop := ∀ a j, ¬ (a = 18 ∧ j = 2) → a ≠ 19 → a ≠ 20 → ¬ (a = 1 ∧ j = 1) → m' a j = m a j
theorem take_175 {m : xm} {h : Nat} {x s : Int} (hx : x = 0 ∨ x = 1) (h0 : 0 ≤ ld m 1 1) : cE_take_175 h x s m = some (x, st (st m 18 2 s) 1 1 0) := by
  unfold cE_take_175
  rw [stf_eq, cT_cut_ok (by decide) (by rw [ld_st_nc (by decide)]; exact h0), bnd_some]
  unfold xrb
  rw [if_pos hx]
theorem hear_no {m : xm} {h : Nat} {n : Int} (h0 : 0 ≤ ld m 1 1) : cE_take_105 h n 0 m = some (0, st (st m 18 2 (ld m 18 2)) 1 1 0) := by
  unfold cE_take_105
  rw [xLF_eq, cE_take_108, if_pos (show w32 0 = 0 by decide)]
  unfold cE_take_161
  rw [if_pos (show w32 0 = 0 by decide), take_175 (Or.inl rfl) h0]
  split <;> rfl
theorem hear_cp {m0 : xm} {h : Nat} {n : Int} (h0 : 0 ≤ n) (h20 : n ≤ 20) (h2n : 2 * n = ld m0 1 1) : ∀ (f k : Nat) {m : xm}, (k : Int) ≤ n → n.toNat - k < f → (∀ i, 0 ≤ i → i < (k : Int) → ld m 19 i = ld m0 2 (2 * i) ∧ ld m 20 i = ld m0 2 (2 * i + 1)) → (∀ a j, a ≠ 19 → a ≠ 20 → m a j = m0 a j) → ∃ m', cE_take_108 h f n 1 (k : Int) m = some (1, m') ∧ fHt m0 m' ∧ ld m' 1 1 = 0 ∧ ld m' 18 2 = n ∧ ∀ i, 0 ≤ i → i < n → ld m' 19 i = ld m0 2 (2 * i) ∧ ld m' 20 i = ld m0 2 (2 * i + 1) := by
  intro f
  induction f with
  | zero => intro k m _ hf; omega
  | succ f ih =>
    intro k m hk hf h1 h2
    have e11 : ld m 1 1 = ld m0 1 1 := ldq (h2 1 1 (by decide) (by decide))
    have e2 : ∀ i, ld m 2 i = ld m0 2 i := fun i => ldq (h2 2 i (by decide) (by decide))
    rw [cE_take_108, w32_id (x := n) (by omega) (by omega), w32_id (x := (k : Int)) (by omega) (by omega)]
    by_cases he : n ≤ (k : Int)
    · rw [if_pos he]
      unfold cE_take_161
      rw [if_neg (by decide), take_175 (Or.inr rfl) (by omega)]
      refine ⟨_, rfl, fun a j z1 z2 z3 z4 => by rw [st_at z4, st_at z1, h2 a j z2 z3], by rw [ld_st_eq]; rfl, by rw [ld_st_nc (by decide), ld_st_eq, w32_id (by omega) (by omega)], fun i g1 g2 => by rw [ld_st_nc (by decide), ld_st_nc (by decide), ld_st_nc (by decide), ld_st_nc (by decide)]; exact h1 i g1 (by omega)⟩
    · rw [if_neg he, if_neg (by decide), cT_byteAt_ok (by omega) (by omega) (by omega), bnd_some, setCell_in (by omega) (by rw [al19]; omega), bnd_some, cT_byteAt_ok (by omega) (by rw [ld_st_nc (by decide)]; omega) (by rw [ld_st_nc (by decide)]; omega), bnd_some, setCell_in (by omega) (by rw [al20]; omega), bnd_some, ld_st_nc (by decide)]
      refine ih (k + 1) (m := st (st m 19 (k : Int) (ld m 2 (2 * (k : Int)))) 20 (k : Int) (ld m 2 (2 * (k : Int) + 1))) (by omega) (by omega) (fun i g1 g2 => ?_) (fun a j z1 z2 => by rw [st_at (by omega), st_at (by omega)]; exact h2 a j z1 z2)
      by_cases hik : i = (k : Int)
      · rw [hik, ld_st_nc (by decide), ld_st_eq, ld_st_eq, w32_ld, w32_ld, e2, e2]
        exact ⟨rfl, rfl⟩
      · rw [ld_st_nc (by decide), ld_st_ne hik, ld_st_ne hik, ld_st_nc (by decide)]
        exact h1 i g1 (by omega)
def gh (m : xm) (G : hv) : Prop := ∃ n, 1 ≤ n ∧ n ≤ 20 ∧ 2 * n = ld m 1 1 ∧ ∀ i, 0 ≤ i → i < n → rwo G (fun k => ld m 2 k) i
theorem cE_take_ok {m : xm} {h : Nat} {G : hv} (p : isH h) (w : wfG G) (c : CH m h G) (T : TP m) : (gh m G → ∃ m', cE_take h m = some (1, m') ∧ fHt m m' ∧ ld m' 1 1 = 0 ∧ 2 * ld m' 18 2 = ld m 1 1 ∧ ∀ i, 0 ≤ i → i < ld m' 18 2 → ld m' 19 i = ld m 2 (2 * i) ∧ ld m' 20 i = ld m 2 (2 * i + 1)) ∧ (¬ gh m G → cE_take h m = some (0, st (st m 18 2 (ld m 18 2)) 1 1 0)) := by
  obtain ⟨t1, t2, t3, t4⟩ := T
  have hb : ∀ i, 0 ≤ i → i < ld m 1 1 → 0 ≤ ld m 2 i ∧ ld m 2 i ≤ 255 := fun i z1 z2 => (t4 i z1 z2).2
  have no : ∀ n, cE_take_31 h n m = some (0, st (st m 18 2 (ld m 18 2)) 1 1 0) := fun n => by
    unfold cE_take_31 cE_take_32
    rw [xlt_eq, xLF_eq, cE_take_37, if_pos (show w32 0 = 0 by decide), hear_no t2]
    split <;> rfl
  unfold cE_take cT_length
  rw [bnd_some, xlt_eq, idv_nn t2 (by omega) (by decide) (by decide), w32_id (x := ld m 1 1 / 2) (by omega) (by omega)]
  by_cases c1 : ld m 1 1 / 2 < 1
  · rw [if_pos c1]
    exact ⟨fun ⟨n, z1, z2, z3, z4⟩ => by omega, fun _ => no _⟩
  · rw [if_neg c1]
    by_cases c2 : 20 < ld m 1 1 / 2
    · rw [if_pos c2]
      exact ⟨fun ⟨n, z1, z2, z3, z4⟩ => by omega, fun _ => no _⟩
    · rw [if_neg c2, bnd_some, irm_nn t2 (by omega) (by decide) (by decide)]
      by_cases c3 : ld m 1 1 % 2 = 0
      · obtain ⟨n, hn⟩ : ∃ n, ld m 1 1 / 2 = n := ⟨_, rfl⟩
        have h2n : 2 * n = ld m 1 1 := by omega
        rw [if_pos c3, hn]
        unfold cE_take_32
        rw [xlt_eq]
        have q := hear_chk p w c (n := n) (by omega) (by omega) h2n hb n.toNat xLF (by omega) (by rw [xLF_eq]; omega)
        rw [show n - (n.toNat : Int) = 0 by omega] at q
        by_cases g : ∀ i, 0 ≤ i → i < n → rwo G (fun k => ld m 2 k) i
        · refine ⟨fun _ => ?_, fun z => absurd ⟨n, by omega, by omega, h2n, g⟩ z⟩
          rw [q.1 g]
          obtain ⟨m', d1, d2, d3, d4, d5⟩ := hear_cp (m0 := m) (h := h) (n := n) (by omega) (by omega) h2n xLF 0 (m := m) (by omega) (by rw [xLF_eq]; omega) (fun i z1 z2 => by omega) (fun _ _ _ _ => rfl)
          exact ⟨m', d1, d2, d3, by rw [d4]; exact h2n, fun i z1 z2 => d5 i z1 (by omega)⟩
        · rw [q.2 g, hear_no t2]
          refine ⟨fun ⟨n', z1, z2, z3, z4⟩ => absurd (fun i y1 y2 => z4 i y1 (by omega)) g, fun _ => rfl⟩
      · rw [if_neg c3]
        exact ⟨fun ⟨n, z1, z2, z3, z4⟩ => by omega, fun _ => no _⟩
theorem r_hear_chk {m : xm} {G : hv} (w : wfG G) (r0 : RH m G) {n : Int} (h0 : 0 ≤ n) (h20 : n ≤ 20) (hb : ∀ i, 0 ≤ i → i < 2 * n → 0 ≤ ld m 79 i ∧ ld m 79 i ≤ 255) : ∀ (r f : Nat), (r : Int) ≤ n → r + 1 < f → ((∀ i, n - (r : Int) ≤ i → i < n → rwo G (fun k => ld m 79 k) i) → r_hear_36 f (2 * n) 1 (2 * (n - (r : Int))) m = r_hear_96 (2 * n) 1 m) ∧ (¬ (∀ i, n - (r : Int) ≤ i → i < n → rwo G (fun k => ld m 79 k) i) → r_hear_36 f (2 * n) 1 (2 * (n - (r : Int))) m = r_hear_96 (2 * n) 0 m) := by
  have gN := w.2.1
  have gD := bd_rng w.2.2.1.1 w.2.2.1.2
  intro r
  induction r with
  | zero =>
    intro f hr hf
    obtain ⟨f, rfl⟩ : ∃ f', f = f' + 1 := ⟨f - 1, by omega⟩
    rw [r_hear_36, w32_id (x := 2 * n) (by omega) (by omega), w32_id (x := 2 * (n - ((0 : Nat) : Int))) (by omega) (by omega), if_pos (by omega)]
    exact ⟨fun _ => rfl, fun z => absurd (fun i g1 g2 => by omega) z⟩
  | succ r ih =>
    intro f hr hf
    obtain ⟨f, rfl⟩ : ∃ f', f = f' + 1 := ⟨f - 1, by omega⟩
    obtain ⟨k, hk⟩ : ∃ k, n - ((r + 1 : Nat) : Int) = k := ⟨_, rfl⟩
    have b1 := hb (2 * k) (by omega) (by omega)
    have b2 := hb (2 * k + 1) (by omega) (by omega)
    have q := ih f (by omega) (by omega)
    have bad : r_hear_89 (fun v1 v2 v3 m => r_hear_36 f v1 v2 v3 m) (2 * n) (2 * k) 0 m = r_hear_96 (2 * n) 0 m := by
      unfold r_hear_89
      obtain ⟨f, rfl⟩ : ∃ f', f = f' + 1 := ⟨f - 1, by omega⟩
      show r_hear_36 (f + 1) (2 * n) 0 (2 * k + 2) m = _
      rw [r_hear_36, if_pos (show w32 0 = 0 by decide)]
      split <;> rfl
    rw [hk, r_hear_36, w32_id (x := 2 * n) (by omega) (by omega), w32_id (x := 2 * k) (by omega) (by omega), if_neg (by omega), if_neg (by decide), ial_in (by omega) (by rw [al79]; omega), w32_id (x := ld m 79 (2 * k)) (by omega) (by omega)]
    have s69 : ntk G (ld m 79 (2 * k)) → ((∀ i, k ≤ i → i < n → rwo G (fun k => ld m 79 k) i) → r_hear_69 (fun v1 v2 v3 m => r_hear_36 f v1 v2 v3 m) (2 * n) (2 * k) m = r_hear_96 (2 * n) 1 m) ∧ (¬ (∀ i, k ≤ i → i < n → rwo G (fun k => ld m 79 k) i) → r_hear_69 (fun v1 v2 v3 m => r_hear_36 f v1 v2 v3 m) (2 * n) (2 * k) m = r_hear_96 (2 * n) 0 m) := by
      intro hn
      unfold r_hear_69
      rw [ial_in (by omega) (by rw [al79]; omega), r_areDoors_ok w r0, bnd_some, w32_id (x := ld m 79 (2 * k + 1)) (by omega) (by omega)]
      by_cases d : 0 ≤ ld m 79 (2 * k + 1) ∧ ld m 79 (2 * k + 1) ≤ bd (nD G)
      · rw [if_pos d, if_neg (by decide)]
        unfold r_hear_89
        rw [xlt_eq, show 2 * k + 2 = 2 * (n - (r : Int)) by omega]
        refine ⟨fun z => q.1 (fun i g1 g2 => z i (by omega) g2), fun z => q.2 (fun y => z (fun i g1 g2 => ?_))⟩
        by_cases e : i = k
        · rw [e]; exact ⟨hn, d⟩
        · exact y i (by omega) g2
      · have nb : ¬ rwo G (fun k => ld m 79 k) k := fun y => d y.2
        rw [if_neg d, if_pos (by decide)]
        unfold r_hear_88
        rw [bad]
        exact ⟨fun z => absurd (z k (by omega) (by omega)) nb, fun _ => rfl⟩
    by_cases h6 : ld m 79 (2 * k) = 6
    · rw [if_pos h6]
      exact s69 (Or.inl h6)
    · rw [if_neg h6, ial_in (by omega) (by rw [al79]; omega), r_isNote_ok w r0, bnd_some, w32_id (x := ld m 79 (2 * k)) (by omega) (by omega)]
      by_cases hn : 0 ≤ ld m 79 (2 * k) ∧ ld m 79 (2 * k) < nN G
      · rw [if_pos hn, if_neg (by decide)]
        exact s69 (Or.inr hn)
      · have nb : ¬ rwo G (fun k => ld m 79 k) k := fun y => by
          rcases y.1 with y | y
          · exact h6 y
          · exact hn y
        rw [if_neg hn, if_pos (by decide)]
        unfold r_hear_88
        rw [bad]
        exact ⟨fun z => absurd (z k (by omega) (by omega)) nb, fun _ => rfl⟩
theorem r_hear_cp {m0 : xm} {n : Int} (h0 : 0 ≤ n) (h20 : n ≤ 20) : ∀ (f k : Nat) {m : xm}, (k : Int) ≤ 2 * n → (2 * n).toNat - k < f → (∀ i, 0 ≤ i → i < (k : Int) → ld m 117 i = ld m0 79 i) → (∀ a j, a ≠ 117 → m a j = m0 a j) → ∃ m', r_hear_108 f (2 * n) (k : Int) m = some (n, m') ∧ (∀ a j, a ≠ 117 → ¬ (a = 78 ∧ j = 58) → m' a j = m0 a j) ∧ ld m' 78 58 = n ∧ ∀ i, 0 ≤ i → i < 2 * n → ld m' 117 i = ld m0 79 i := by
  intro f
  induction f with
  | zero => intro k m _ hf; omega
  | succ f ih =>
    intro k m hk hf h1 h2
    rw [r_hear_108, w32_id (x := 2 * n) (by omega) (by omega), w32_id (x := (k : Int)) (by omega) (by omega)]
    by_cases he : 2 * n ≤ (k : Int)
    · rw [if_pos he]
      unfold r_hear_131
      rw [stf_eq, idv_nn (by omega) (by omega) (by decide) (by decide), show 2 * n / 2 = n by omega]
      have e : ld (st m 78 58 n) 78 58 = n := by rw [ld_st_eq, w32_id (by omega) (by omega)]
      rw [e]
      exact ⟨_, rfl, fun a j z1 z2 => by rw [st_at z2, h2 a j z1], e, fun i g1 g2 => by rw [ld_st_nc (by decide)]; exact h1 i g1 (by omega)⟩
    · rw [if_neg he, ial_in (by omega) (by rw [al79]; omega), ias_in (by omega) (by rw [al117]; omega)]
      refine ih (k + 1) (m := st m 117 (k : Int) (ld m 79 (k : Int))) (by omega) (by omega) (fun i g1 g2 => ?_) (fun a j z => by rw [st_at (fun y => z y.1)]; exact h2 a j z)
      by_cases hik : i = (k : Int)
      · rw [hik, ld_st_eq, w32_ld, ldq (h2 79 _ (by decide))]
      · rw [ld_st_ne hik]
        exact h1 i g1 (by omega)
theorem r_hear_ok {m : xm} {G : hv} (w : wfG G) (r0 : RH m G) {B : Int → Int} {l : Int} (hl : ld m 78 1 = l) (h0 : 0 ≤ l) (h1600 : l ≤ 1600) (hb : ∀ i, 0 ≤ i → i < l → ld m 79 i = B i ∧ 0 ≤ B i ∧ B i ≤ 255) : (∀ n, 1 ≤ n → n ≤ 20 → 2 * n = l → (∀ i, 0 ≤ i → i < n → rwo G B i) → ∃ m', r_hear m = some (n, m') ∧ (∀ a j, a ≠ 117 → ¬ (a = 78 ∧ (j = 58 ∨ j = 1)) → m' a j = m a j) ∧ ld m' 78 58 = n ∧ ld m' 78 1 = 0 ∧ ∀ i, 0 ≤ i → i < 2 * n → ld m' 117 i = B i) ∧ (¬ (∃ n, 1 ≤ n ∧ n ≤ 20 ∧ 2 * n = l ∧ ∀ i, 0 ≤ i → i < n → rwo G B i) → r_hear m = some (-1, st (st m 78 1 0) 80 1 (ld m 80 1 + 1))) := by
  have r1 : RH (st m 78 1 0) G := RH_cg r0 (fun a k g1 g2 _ => ld_st_nc (by omega))
  have e79 : ∀ i, ld (st m 78 1 0) 79 i = ld m 79 i := fun i => ld_st_nc (by decide)
  have n96 : ∀ v, r_hear_96 v 0 (st m 78 1 0) = some (-1, st (st m 78 1 0) 80 1 (ld m 80 1 + 1)) := fun v => by
    unfold r_hear_96
    rw [if_pos (by decide), r_refuses_ok (by decide) (by decide), bnd_some, ld_st_nc (by decide)]
  have n32 : ∀ v, r_hear_32 v (st m 78 1 0) = some (-1, st (st m 78 1 0) 80 1 (ld m 80 1 + 1)) := fun v => by
    unfold r_hear_32 r_hear_33
    rw [xlt_eq, xLF_eq, r_hear_36, if_pos (show w32 0 = 0 by decide), n96]
    split <;> rfl
  unfold r_hear
  rw [stf_eq, hl]
  by_cases c1 : l ≤ 0
  · rw [if_pos c1]
    exact ⟨fun n z1 z2 z3 z4 => by omega, fun _ => n32 _⟩
  · rw [if_neg c1, irm_nn h0 (by omega) (by decide) (by decide)]
    by_cases c3 : l % 2 = 0
    · rw [if_pos c3, idv_nn h0 (by omega) (by decide) (by decide)]
      by_cases c2 : 20 < l / 2
      · rw [if_pos c2]
        exact ⟨fun n z1 z2 z3 z4 => by omega, fun _ => n32 _⟩
      · obtain ⟨n, hn⟩ : ∃ n, l / 2 = n := ⟨_, rfl⟩
        have h2n : l = 2 * n := by omega
        rw [if_neg c2]
        unfold r_hear_33
        rw [xlt_eq, h2n]
        have q := r_hear_chk w r1 (n := n) (by omega) (by omega) (fun i z1 z2 => by rw [e79, (hb i z1 (by omega)).1]; exact (hb i z1 (by omega)).2) n.toNat xLF (by omega) (by rw [xLF_eq]; omega)
        rw [show 2 * (n - (n.toNat : Int)) = 0 by omega, show n - (n.toNat : Int) = 0 by omega] at q
        have eqv : ∀ i, 0 ≤ i → i < n → (rwo G (fun k => ld (st m 78 1 0) 79 k) i ↔ rwo G B i) := fun i z1 z2 => by
          unfold rwo
          dsimp only
          rw [e79, e79, (hb (2 * i) (by omega) (by omega)).1, (hb (2 * i + 1) (by omega) (by omega)).1]
        refine ⟨fun n' z1 z2 z3 z4 => ?_, fun z => ?_⟩
        · obtain rfl : n = n' := by omega
          rw [q.1 (fun i y1 y2 => (eqv i y1 y2).mpr (z4 i y1 y2))]
          unfold r_hear_96
          rw [if_neg (by decide)]
          obtain ⟨m', d1, d2, d3, d4⟩ := r_hear_cp (m0 := st m 78 1 0) (n := n) (by omega) (by omega) xLF 0 (m := st m 78 1 0) (by omega) (by rw [xLF_eq]; omega) (fun i z1 z2 => by omega) (fun _ _ _ => rfl)
          refine ⟨m', d1, fun a j y1 y2 => by rw [d2 a j y1 (by omega), st_at (by omega)], d3, by rw [ldq (d2 78 1 (by decide) (by decide)), ld_st_eq]; rfl, fun i y1 y2 => by rw [d4 i y1 y2, e79, (hb i y1 (by omega)).1]⟩
        · rw [q.2 (fun y => z ⟨n, by omega, by omega, by omega, fun i y1 y2 => (eqv i y1 y2).mp (y i y1 y2)⟩), n96]
    · rw [if_neg c3]
      exact ⟨fun n z1 z2 z3 z4 => by omega, fun _ => n32 _⟩
theorem ok_hear : okI cL_hear r_hear := by
  intro m hi
  obtain ⟨G, H⟩ := hi
  have H0 : IG m G := H
  obtain ⟨⟨w, hD, -, c, M, r, -⟩, S0, P0, T, -, R, HH, JJ, LL, II, E⟩ := H0
  obtain ⟨h, hh⟩ : ∃ h, hl m 12 = h := ⟨_, rfl⟩
  have p := hl_or m 12
  rw [hh] at p c M
  have pr := isH_rng p
  have tk := cE_take_ok p w c T
  obtain ⟨t1, t2, t3, t4⟩ := T
  by_cases hg : gh m G
  · obtain ⟨mA, a1, a2, a3, a4, a5⟩ := tk.1 hg
    obtain ⟨n, n1, n2, n3, n4⟩ := hg
    have en : ld mA 18 2 = n := by omega
    have eC : cL_hear m = some (n, mA) := by
      unfold cL_hear cE_rows
      rw [hh, a1, bnd_some, if_neg (by decide), bnd_some, en]
    have frR : ∀ a, 78 ≤ a → mA a = m a := fun a z => by
      funext k
      exact a2 a k (by omega) (by omega) (by omega) (by omega)
    obtain ⟨mF, b1, b2, b3, b4, b5⟩ := (r_hear_ok w (m := mA) (RH_cg r (fun a k g1 _ _ => ld_cg (frR a (by omega)) k)) (B := fun i => ld m 2 i) (l := ld m 1 1) (by rw [ld_cg (frR 78 (by decide)), t1]) t2 t3 (fun i z1 z2 => by rw [ld_cg (frR 79 (by decide))]; exact ⟨(t4 i z1 z2).1.symm, (t4 i z1 z2).2⟩)).1 n n1 n2 n3 n4
    have clF : ∀ a, a < 78 → mF a = mA a := fun a z => by
      funext k
      exact b2 a k (by omega) (by omega)
    have fr : ∀ a k, ¬ fTP a k → ¬ fHE a k → mF a k = m a k := fun a k y1 y2 => by
      unfold fTP at y1
      unfold fHE at y2
      rw [b2 a k (by omega) (by omega), a2 a k (by omega) (by omega) (by omega) (by omega)]
    refine ⟨_, mA, _, mF, eC, b1, rfl, ⟨G, IG_qry hh H (fun a k z => fr a k (fun q => z (by unfold qset; simp [q])) (fun q => z (by unfold qset; simp [q]))) (CM_cg M (fun k => fr _ k (by unfold fTP; omega) (by unfold fHE; omega))) (fun k z1 z2 => ldq (fr 110 k (by unfold fTP; omega) (by unfold fHE; omega))) (TP0 ?_ ?_) ?_ ?_ ?_ ?_ ?_⟩⟩
    · rw [ld_cg (clF 1 (by decide)), a3]
    · exact b4
    · exact RF_cg R (fun a k z => by unfold fRF at z; exact fr a k (by unfold fTP; omega) (by unfold fHE; omega))
    · unfold HE
      rw [b3, ld_cg (clF 18 (by decide)), en]
      refine ⟨rfl, by omega, n2, fun k z1 z2 => ?_⟩
      have k1 := a5 k z1 (by omega)
      have k2 := n4 k z1 z2
      rw [ld_cg (clF 19 (by decide)), ld_cg (clF 20 (by decide)), k1.1, k1.2, b5 _ (by omega) (by omega), b5 _ (by omega) (by omega)]
      exact ⟨⟨rfl, k2.1⟩, rfl, k2.2⟩
    · exact JU_cg JJ (fun a k z => by unfold fJU at z; exact fr a k (by unfold fTP; omega) (by unfold fHE; omega))
    · exact SL_cg LL (fun a k z => by unfold fSL at z; exact fr a k (by unfold fTP; omega) (by unfold fHE; omega))
    · exact IM_cg II (fun a k z => by unfold fIM at z; exact fr a k (by unfold fTP; omega) (by unfold fHE; omega))
  · have a1 := tk.2 hg
    obtain ⟨mB, hB⟩ : ∃ mB, mB = st (st m 18 2 (ld m 18 2)) 1 1 0 := ⟨_, rfl⟩
    rw [← hB] at a1
    obtain ⟨mA, hA⟩ : ∃ mA, mA = st mB 47 1 (ld mB 47 1 + 1) := ⟨_, rfl⟩
    have eC : cL_hear m = some (-1, mA) := by
      unfold cL_hear
      rw [hh, a1, bnd_some, if_pos (by decide), cL_refuse_ok (by decide) (by decide), bnd_some, hA]
    have frR : ∀ a, 78 ≤ a → mA a = m a := fun a z => by
      funext k
      rw [hA, hB, st_at (by omega), st_at (by omega), st_at (by omega)]
    have b1 := (r_hear_ok w (m := mA) (RH_cg r (fun a k g1 _ _ => ld_cg (frR a (by omega)) k)) (B := fun i => ld m 2 i) (l := ld m 1 1) (by rw [ld_cg (frR 78 (by decide)), t1]) t2 t3 (fun i z1 z2 => by rw [ld_cg (frR 79 (by decide))]; exact ⟨(t4 i z1 z2).1.symm, (t4 i z1 z2).2⟩)).2 hg
    obtain ⟨mF, hF⟩ : ∃ mF, mF = st (st mA 78 1 0) 80 1 (ld mA 80 1 + 1) := ⟨_, rfl⟩
    rw [← hF] at b1
    have fr : ∀ a k, ¬ fTP a k → ¬ fRF a k → ¬ (a = 18 ∧ k = 2) → mF a k = m a k := fun a k y1 y2 y3 => by
      unfold fTP at y1
      unfold fRF at y2
      rw [hF, st_at (by omega), st_at (by omega), hA, hB, st_at (by omega), st_at (by omega), st_at (by omega)]
    have e182 : ld mF 18 2 = ld m 18 2 := by rw [hF, ld_st_nc (by decide), ld_st_nc (by decide), hA, ld_st_nc (by decide), hB, ld_st_nc (by decide), ld_st_eq, w32_ld]
    refine ⟨_, mA, _, mF, eC, b1, rfl, ⟨G, IG_qry hh H (fun a k z => fr a k (fun q => z (by unfold qset; simp [q])) (fun q => z (by unfold qset; simp [q])) (fun q => z (by unfold qset fHE; simp [q]))) (CM_cg M (fun k => fr _ k (by unfold fTP; omega) (by unfold fRF; omega) (by omega))) (fun k z1 z2 => ldq (fr 110 k (by unfold fTP; omega) (by unfold fRF; omega) (by omega))) (TP0 ?_ ?_) ?_ ?_ ?_ ?_ ?_⟩⟩
    · rw [hF, ld_st_nc (by decide), ld_st_nc (by decide), hA, ld_st_nc (by decide), hB, ld_st_eq]
      rfl
    · rw [hF, ld_st_nc (by decide), ld_st_eq]
      rfl
    · refine RF_inc (k := 1) R (fun i => ?_) (fun i => ?_) (by decide) (by decide)
      · rw [hF, ld_st_nc (by decide), ld_st_nc (by decide), hA, ld_inc, hB, ld_st_nc (by decide), ld_st_nc (by decide), ld_st_nc (by decide), ld_st_nc (by decide)]
      · rw [hF, ld_inc, ld_st_nc (by decide), ld_cg (frR 80 (by decide)), ld_cg (frR 80 (by decide))]
    · have q19 : ∀ k, ld mF 19 k = ld m 19 k := fun k => ldq (fr 19 k (by unfold fTP; omega) (by unfold fRF; omega) (by omega))
      have q20 : ∀ k, ld mF 20 k = ld m 20 k := fun k => ldq (fr 20 k (by unfold fTP; omega) (by unfold fRF; omega) (by omega))
      have q117 : ∀ k, ld mF 117 k = ld m 117 k := fun k => ldq (fr 117 k (by unfold fTP; omega) (by unfold fRF; omega) (by omega))
      have q78 : ld mF 78 58 = ld m 78 58 := ldq (fr 78 58 (by unfold fTP; omega) (by unfold fRF; omega) (by omega))
      unfold HE
      simp only [q19, q20, q117, q78, e182]
      exact HH
    · exact JU_cg JJ (fun a k z => by unfold fJU at z; exact fr a k (by unfold fTP; omega) (by unfold fRF; omega) (by omega))
    · exact SL_cg LL (fun a k z => by unfold fSL at z; exact fr a k (by unfold fTP; omega) (by unfold fRF; omega) (by omega))
    · exact IM_cg II (fun a k z => by unfold fIM at z; exact fr a k (by unfold fTP; omega) (by unfold fRF; omega) (by omega))
