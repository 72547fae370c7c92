/-! pieces from the tape -/
def ntk (G : hv) (x : Int) : Prop := x = 6 ∨ (0 ≤ x ∧ x < nN G)
def gp (m : xm) (G : hv) : Prop := ld m 1 1 ≤ 20 ∧ ∀ i, 0 ≤ i → i < ld m 1 1 → ntk G (ld m 2 i)
theorem cT_byteAt_ok {m : xm} {k : Int} (h1 : 0 ≤ k) (h2 : k < ld m 1 1) (h3 : ld m 1 1 ≤ 1600) : cT_byteAt k m = some (ld m 2 k, m) := by
  unfold cT_byteAt
  rw [w32_id (x := k) (by omega) (by omega), if_neg (by omega), if_neg (by omega), if_neg (by omega), ial_in h1 (by rw [al2]; omega)]
def fT (m m' : xm) : Prop := ∀ a k, ¬ (a = 16 ∧ k = 1) → a ≠ 17 → ¬ (a = 1 ∧ k = 1) → m' a k = m a k
theorem take_94 {m : xm} {h : Nat} {x : Int} (hx : x = 0 ∨ x = 1) (h0 : 0 ≤ ld m 1 1) : cP_take_94 h x m = some (x, st m 1 1 0) := by
  unfold cP_take_94
  rw [cT_cut_ok (by decide) h0, bnd_some]
  unfold xrb
  rw [if_pos hx]
theorem take_loop {m0 : xm} {h : Nat} {G : hv} (p : isH h) (w : wfG G) (c0 : CH m0 h G) (h0 : 0 ≤ ld m0 1 1) (h20 : ld m0 1 1 ≤ 20) (hb : ∀ i, 0 ≤ i → i < ld m0 1 1 → 0 ≤ ld m0 2 i ∧ ld m0 2 i ≤ 255) : ∀ (f k : Nat) {m : xm}, (k : Int) ≤ ld m0 1 1 → (ld m0 1 1).toNat - k < f → ld m 16 1 = k → (∀ i, 0 ≤ i → i < (k : Int) → ld m 17 i = ld m0 2 i) → (∀ a j, ¬ (a = 16 ∧ j = 1) → a ≠ 17 → m a j = m0 a j) →
    ((∀ i, (k : Int) ≤ i → i < ld m0 1 1 → ntk G (ld m0 2 i)) → ∃ m', cP_take_23 h f 1 (k : Int) m = some (1, m') ∧ fT m0 m' ∧ ld m' 1 1 = 0 ∧ ld m' 16 1 = ld m0 1 1 ∧ ∀ i, 0 ≤ i → i < ld m0 1 1 → ld m' 17 i = ld m0 2 i) ∧
    (¬ (∀ i, (k : Int) ≤ i → i < ld m0 1 1 → ntk G (ld m0 2 i)) → ∃ m', cP_take_23 h f 1 (k : Int) m = some (0, m') ∧ fT m0 m' ∧ ld m' 1 1 = 0) := by
  have pr := isH_rng p
  have gN := w.2.1
  intro f
  induction f with
  | zero => intro k m _ hf; omega
  | succ f ih =>
    intro k m hk hf h16 h17 he
    have e11 : ld m 1 1 = ld m0 1 1 := ldq (he 1 1 (by decide) (by decide))
    have e2 : ∀ i, ld m 2 i = ld m0 2 i := fun i => ldq (he 2 i (by omega) (by decide))
    have cm : CH m h G := CH_cg c0 (fun a j z => ldq (he a j (by rcases z with rfl | ⟨z1, z2⟩ | ⟨rfl, z⟩ <;> omega) (by rcases z with rfl | ⟨z1, z2⟩ | ⟨rfl, z⟩ <;> omega)))
    rw [cP_take_23]
    unfold cT_length
    rw [bnd_some, w32_ld, e11, w32_id (x := (k : Int)) (by omega) (by omega)]
    by_cases hend : ld m0 1 1 ≤ (k : Int)
    · rw [if_pos hend, take_94 (Or.inr rfl) (by omega)]
      have hk2 : (k : Int) = ld m0 1 1 := by omega
      refine ⟨fun _ => ⟨_, rfl, fun a j z1 z2 z3 => by rw [st_at z3, he a j z1 z2], by rw [ld_st_eq]; rfl, by rw [ld_st_nc (by decide), h16, hk2], fun i g1 g2 => by rw [ld_st_nc (by decide)]; exact h17 i g1 (by omega)⟩, fun z => absurd (fun i g1 g2 => by omega) z⟩
    · have hby := hb (k : Int) (by omega) (by omega)
      rw [if_neg hend, if_neg (by decide), cT_byteAt_ok (by omega) (by omega) (by omega), bnd_some, e2, w32_id (x := ld m0 2 k) (by omega) (by omega)]
      -- the next one
      have put : ∀ x, cP_take_66 h (fun v3 v4 m => cP_take_23 h f v3 v4 m) (k : Int) (ld m0 2 k) x m = cP_take_23 h f x ((k + 1 : Nat) : Int) (st (st m 17 (k : Int) (ld m0 2 k)) 16 1 ((k : Int) + 1)) := by
        intro x
        unfold cP_take_66
        rw [xlt_eq, setCell_in (by omega) (by rw [al17]; omega), bnd_some, stf_eq, ld_st_nc (by decide), h16]
        rfl
      have g16 : ld (st (st m 17 (k : Int) (ld m0 2 k)) 16 1 ((k : Int) + 1)) 16 1 = ((k + 1 : Nat) : Int) := by
        rw [ld_st_eq, w32_id (by omega) (by omega)]
        omega
      have g17 : ∀ i, 0 ≤ i → i < ((k + 1 : Nat) : Int) → ld (st (st m 17 (k : Int) (ld m0 2 k)) 16 1 ((k : Int) + 1)) 17 i = ld m0 2 i := by
        intro i g1 g2
        rw [ld_st_nc (by decide)]
        by_cases hik : i = (k : Int)
        · rw [hik, ld_st_eq, w32_id (by omega) (by omega)]
        · rw [ld_st_ne hik]
          exact h17 i g1 (by omega)
      have ge : ∀ a j, ¬ (a = 16 ∧ j = 1) → a ≠ 17 → (st (st m 17 (k : Int) (ld m0 2 k)) 16 1 ((k : Int) + 1)) a j = m0 a j := fun a j z1 z2 => by rw [st_at z1, st_at (fun z => z2 z.1), he a j z1 z2]
      have good : ntk G (ld m0 2 k) → ((∀ i, (k : Int) ≤ i → i < ld m0 1 1 → ntk G (ld m0 2 i)) → ∃ m', cP_take_23 h f 1 ((k + 1 : Nat) : Int) (st (st m 17 (k : Int) (ld m0 2 k)) 16 1 ((k : Int) + 1)) = some (1, m') ∧ fT m0 m' ∧ ld m' 1 1 = 0 ∧ ld m' 16 1 = ld m0 1 1 ∧ ∀ i, 0 ≤ i → i < ld m0 1 1 → ld m' 17 i = ld m0 2 i) ∧ (¬ (∀ i, (k : Int) ≤ i → i < ld m0 1 1 → ntk G (ld m0 2 i)) → ∃ m', cP_take_23 h f 1 ((k + 1 : Nat) : Int) (st (st m 17 (k : Int) (ld m0 2 k)) 16 1 ((k : Int) + 1)) = some (0, m') ∧ fT m0 m' ∧ ld m' 1 1 = 0) := by
        intro hg
        have q := ih (k + 1) (m := st (st m 17 (k : Int) (ld m0 2 k)) 16 1 ((k : Int) + 1)) (by omega) (by omega) g16 g17 ge
        refine ⟨fun z => q.1 (fun i g1 g2 => z i (by omega) g2), fun z => q.2 (fun y => z (fun i g1 g2 => ?_))⟩
        by_cases hik : i = (k : Int)
        · rw [hik]; exact hg
        · exact y i (by omega) g2
      by_cases h6 : ld m0 2 k = 6
      · rw [if_pos h6]
        unfold cP_take_61
        rw [put]
        exact good (Or.inl h6)
      · rw [if_neg h6, cH_isOne_k p w cm (by decide) (by decide) ⟨by omega, by omega⟩, bnd_some]
        by_cases hn : 0 ≤ ld m0 2 k ∧ ld m0 2 k < nN G
        · rw [if_pos (show 0 ≤ ld m0 2 k ∧ ld m0 2 k < G 0 1 from hn), if_neg (by decide)]
          unfold cP_take_61
          rw [put]
          exact good (Or.inr hn)
        · rw [if_neg (show ¬ (0 ≤ ld m0 2 k ∧ ld m0 2 k < G 0 1) from hn), if_pos (by decide), put]
          refine ⟨fun z => absurd (z (k : Int) (by omega) (by omega)) (fun y => by rcases y with y | y; exact h6 y; exact hn y), fun _ => ?_⟩
          obtain ⟨f, rfl⟩ : ∃ f', f = f' + 1 := ⟨f - 1, by omega⟩
          rw [cP_take_23]
          unfold cT_length
          have h11 : ld (st (st m 17 (k : Int) (ld m0 2 k)) 16 1 ((k : Int) + 1)) 1 1 = ld m0 1 1 := ldq (ge 1 1 (by decide) (by decide))
          rw [bnd_some, if_pos (show w32 0 = 0 by rfl), take_94 (Or.inl rfl) (by omega)]
          refine ⟨st (st (st m 17 (k : Int) (ld m0 2 k)) 16 1 ((k : Int) + 1)) 1 1 0, by split <;> rfl, fun a j z1 z2 z3 => by rw [st_at z3, ge a j z1 z2], by rw [ld_st_eq]; rfl⟩
theorem cP_take_ok {m : xm} {h : Nat} {G : hv} (p : isH h) (w : wfG G) (c : CH m h G) (T : TP m) : (gp m G → ∃ m', cP_take h m = some (1, m') ∧ fT m m' ∧ ld m' 1 1 = 0 ∧ ld m' 16 1 = ld m 1 1 ∧ ∀ i, 0 ≤ i → i < ld m 1 1 → ld m' 17 i = ld m 2 i) ∧ (¬ gp m G → ∃ m', cP_take h m = some (0, m') ∧ fT m m' ∧ ld m' 1 1 = 0) := by
  obtain ⟨t1, t2, t3, t4⟩ := T
  have pr := isH_rng p
  have e11 : ld (st m 16 1 0) 1 1 = ld m 1 1 := ld_st_nc (by decide)
  have e2 : ∀ i, ld (st m 16 1 0) 2 i = ld m 2 i := fun i => ld_st_nc (by decide)
  have fr0 : ∀ {m'}, fT (st m 16 1 0) m' → fT m m' := fun f a k z1 z2 z3 => by rw [f a k z1 z2 z3, st_at z1]
  unfold cP_take cT_length cP_take_19
  rw [stf_eq, bnd_some, w32_ld, e11]
  by_cases h20 : 20 < ld m 1 1
  · rw [if_pos h20, xlt_eq]
    refine ⟨fun z => absurd z.1 (by omega), fun _ => ?_⟩
    rw [xLF_eq, cP_take_23]
    unfold cT_length
    rw [bnd_some, if_pos (show w32 0 = 0 by rfl), take_94 (Or.inl rfl) (by omega)]
    exact ⟨st (st m 16 1 0) 1 1 0, by split <;> rfl, fun a j z1 _ z3 => by rw [st_at z3, st_at z1], by rw [ld_st_eq]; rfl⟩
  · rw [if_neg h20, xlt_eq]
    have q := take_loop p w (m0 := st m 16 1 0) (CH_cg c (fun a j z => ld_st_nc (by rcases z with rfl | ⟨z1, z2⟩ | ⟨rfl, z⟩ <;> omega))) (by omega) (by omega) (fun i g1 g2 => by rw [e2]; exact (t4 i g1 (by omega)).2) xLF 0 (m := st m 16 1 0) (by omega) (by rw [xLF_eq]; omega) (by rw [ld_st_eq]; rfl) (fun i g1 g2 => by omega) (fun _ _ _ _ => rfl)
    rw [e11] at q
    simp only [e2] at q
    refine ⟨fun z => ?_, fun z => ?_⟩
    · obtain ⟨m', q1, q2, q3, q4, q5⟩ := q.1 (fun i g1 g2 => z.2 i (by omega) g2)
      exact ⟨m', q1, fr0 q2, q3, q4, q5⟩
    · obtain ⟨m', q1, q2, q3⟩ := q.2 (fun y => z ⟨by omega, fun i g1 g2 => y i (by omega) g2⟩)
      exact ⟨m', q1, fr0 q2, q3⟩
/-! the reference -/
def fU (m m' : xm) : Prop := ∀ a k, ¬ (a = 78 ∧ (k = 1 ∨ k = 46)) → a ≠ 112 → m' a k = m a k
theorem isPiece_cp {m0 : xm} {n : Int} (h0 : 0 ≤ n) (h20 : n ≤ 20) : ∀ (f k : Nat) {m : xm}, (k : Int) ≤ n → n.toNat - k < f → (∀ i, 0 ≤ i → i < (k : Int) → ld m 112 i = ld m0 79 i) → (∀ a j, a ≠ 112 → m a j = m0 a j) → ∃ m', r_isPiece_66 f n (k : Int) m = some (1, m') ∧ (∀ a j, a ≠ 112 → ¬ (a = 78 ∧ j = 46) → m' a j = m0 a j) ∧ ld m' 78 46 = n ∧ ∀ i, 0 ≤ i → i < n → ld m' 112 i = ld m0 79 i := by
  intro f
  induction f with
  | zero => intro k m _ hf; omega
  | succ f ih =>
    intro k m hk hf h1 h2
    rw [r_isPiece_66, w32_id (x := n) (by omega) (by omega), w32_id (x := (k : Int)) (by omega) (by omega)]
    by_cases he : n ≤ (k : Int)
    · rw [if_pos he]
      unfold r_isPiece_89
      rw [stf_eq]
      refine ⟨_, rfl, fun a j z1 z2 => by rw [st_at z2, h2 a j z1], by rw [ld_st_eq, w32_id (by omega) (by omega)], fun i g1 g2 => by rw [ld_st_nc (by decide)]; exact h1 i g1 (by omega)⟩
    · rw [if_neg he, ial_in (by omega) (by rw [al79]; omega), ias_in (by omega) (by rw [al112]; omega)]
      refine ih (k + 1) (m := st m 112 (k : Int) (ld m 79 (k : Int))) (by omega) (by omega) (fun i g1 g2 => ?_) (fun a j z => by rw [st_at (fun y => z y.1)]; exact h2 a j z)
      by_cases hik : i = (k : Int)
      · rw [hik, ld_st_eq, w32_ld, ldq (h2 79 _ (by decide))]
      · rw [ld_st_ne hik]
        exact h1 i g1 (by omega)
theorem isPiece_chk {m : xm} {G : hv} {n : Int} (w : wfG G) (H : RH m G) (h0 : 0 ≤ n) (h20 : n ≤ 20) (hb : ∀ i, 0 ≤ i → i < n → 0 ≤ ld m 79 i ∧ ld m 79 i ≤ 255) : ∀ (f k : Nat), (k : Int) ≤ n → n.toNat - k < f → ((∀ i, (k : Int) ≤ i → i < n → ntk G (ld m 79 i)) → r_isPiece_27 f n (k : Int) m = r_isPiece_64 n m) ∧ (¬ (∀ i, (k : Int) ≤ i → i < n → ntk G (ld m 79 i)) → r_isPiece_27 f n (k : Int) m = some (0, m)) := by
  have gN := w.2.1
  intro f
  induction f with
  | zero => intro k _ hf; omega
  | succ f ih =>
    intro k hk hf
    rw [r_isPiece_27, w32_id (x := n) (by omega) (by omega), w32_id (x := (k : Int)) (by omega) (by omega)]
    by_cases he : n ≤ (k : Int)
    · rw [if_pos he]
      exact ⟨fun _ => rfl, fun z => absurd (fun i g1 g2 => by omega) z⟩
    · have hby := hb (k : Int) (by omega) (by omega)
      have q := ih (k + 1) (by omega) (by omega)
      have e58 : r_isPiece_58 (fun v2 v3 m => r_isPiece_27 f v2 v3 m) n (k : Int) m = r_isPiece_27 f n ((k + 1 : Nat) : Int) m := rfl
      rw [if_neg he, ial_in (by omega) (by rw [al79]; omega), w32_id (x := ld m 79 k) (by omega) (by omega)]
      have good : ntk G (ld m 79 k) → ((∀ i, (k : Int) ≤ i → i < n → ntk G (ld m 79 i)) → r_isPiece_27 f n ((k + 1 : Nat) : Int) m = r_isPiece_64 n m) ∧ (¬ (∀ i, (k : Int) ≤ i → i < n → ntk G (ld m 79 i)) → r_isPiece_27 f n ((k + 1 : Nat) : Int) m = some (0, m)) := by
        intro hg
        refine ⟨fun z => q.1 (fun i g1 g2 => z i (by omega) g2), fun z => q.2 (fun y => z (fun i g1 g2 => ?_))⟩
        by_cases hik : i = (k : Int)
        · rw [hik]; exact hg
        · exact y i (by omega) g2
      by_cases h6 : ld m 79 k = 6
      · rw [if_pos h6, e58]
        exact good (Or.inl h6)
      · rw [if_neg h6, ial_in (by omega) (by rw [al79]; omega), r_isNote_ok w H, bnd_some, w32_id (x := ld m 79 k) (by omega) (by omega)]
        by_cases hn : 0 ≤ ld m 79 k ∧ ld m 79 k < nN G
        · rw [if_pos hn, if_neg (by decide), e58]
          exact good (Or.inr hn)
        · rw [if_neg hn, if_pos (by decide)]
          exact ⟨fun z => absurd (z (k : Int) (by omega) (by omega)) (fun y => by rcases y with y | y; exact h6 y; exact hn y), fun _ => rfl⟩
theorem r_isPiece_ok {m : xm} {G : hv} (w : wfG G) (H : RH m G) {l n : Int} (hl : l = 0 ∨ l = 1) (hn : ld m 78 1 = n) (h0 : 0 ≤ n) (h1600 : n ≤ 1600) (hb : ∀ i, 0 ≤ i → i < n → 0 ≤ ld m 79 i ∧ ld m 79 i ≤ 255) : ((l ≤ n ∧ n ≤ 20 ∧ ∀ i, 0 ≤ i → i < n → ntk G (ld m 79 i)) → ∃ m', r_isPiece l m = some (1, m') ∧ fU m m' ∧ ld m' 78 1 = 0 ∧ ld m' 78 46 = n ∧ ∀ i, 0 ≤ i → i < n → ld m' 112 i = ld m 79 i) ∧ (¬ (l ≤ n ∧ n ≤ 20 ∧ ∀ i, 0 ≤ i → i < n → ntk G (ld m 79 i)) → ∃ m', r_isPiece l m = some (0, m') ∧ fU m m' ∧ ld m' 78 1 = 0) := by
  have e79 : ∀ i, ld (st m 78 1 0) 79 i = ld m 79 i := fun i => ld_st_nc (by decide)
  have H1 : RH (st m 78 1 0) G := RH_cg H (fun a k g1 g2 _ => ld_st_nc (by omega))
  have f1 : fU m (st m 78 1 0) := fun a k z1 _ => st_at (fun y => z1 ⟨y.1, Or.inl y.2⟩)
  have z0 : ld (st m 78 1 0) 78 1 = 0 := by rw [ld_st_eq]; rfl
  unfold r_isPiece
  rw [stf_eq, hn, w32_id (x := l) (by omega) (by omega), r_isIn_ok (by omega) (by omega) (by omega) (by omega) (by omega) (by omega), bnd_some]
  by_cases c : l ≤ n ∧ n ≤ 20
  · rw [if_pos c, if_neg (by decide)]
    have q := isPiece_chk w H1 h0 c.2 (fun i g1 g2 => by rw [e79]; exact hb i g1 g2) xLF 0 (by omega) (by rw [xLF_eq]; omega)
    simp only [e79] at q
    refine ⟨fun z => ?_, fun z => ?_⟩
    · have q1 : r_isPiece_27 xLF n 0 (st m 78 1 0) = r_isPiece_64 n (st m 78 1 0) := q.1 (fun i g1 g2 => z.2.2 i (by omega) g2)
      unfold r_isPiece_64 at q1
      obtain ⟨m', g1, g2, g3, g4⟩ := isPiece_cp (m0 := st m 78 1 0) h0 c.2 xLF 0 (m := st m 78 1 0) (by omega) (by rw [xLF_eq]; omega) (fun i g1 g2 => by omega) (fun _ _ _ => rfl)
      rw [q1]
      refine ⟨m', g1, fun a k y1 y2 => by rw [g2 a k y2 (by omega), f1 a k y1 y2], by rw [ldq (g2 78 1 (by decide) (by decide))]; exact z0, g3, fun i y1 y2 => by rw [g4 i y1 y2, e79]⟩
    · have q2 : r_isPiece_27 xLF n 0 (st m 78 1 0) = some (0, st m 78 1 0) := q.2 (fun y => z ⟨c.1, c.2, fun i g1 g2 => y i (by omega) g2⟩)
      exact ⟨_, q2, f1, z0⟩
  · rw [if_neg c, if_pos (by decide)]
    exact ⟨fun z => absurd ⟨z.1, z.2.1⟩ c, fun _ => ⟨_, rfl, f1, z0⟩⟩
