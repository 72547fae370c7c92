/-! the program's next token, whole -/
def tke (B : Int → Int) (n q : Int) : Int := if kdo (see B n q) = 0 then q else if kdo (see B n q) = 3 then q + 1 else ren (Kk (kdo (see B n q))) B n (q + 1)
def tkk (w : Int) (e q k : Int) : Int := if w = 1 ∧ q = e ∧ (k = 1 ∨ k = 2) then 4 else k
theorem next_84 {B : Int → Int} {n q w e : Int} {m : xm} (T : CT m B n) (h2 : ld m 3 2 = q) (hq0 : 0 ≤ q) (hq1 : q ≤ n) (hw : w = 0 ∨ w = 1) (he0 : 0 ≤ e) (he1 : e ≤ n) : ∃ m', cW_next_84 w e m = some (0, m') ∧ ld m' 3 2 = q ∧ ld m' 3 3 = tke B n q ∧ ld m' 3 1 = tkk w e q (kdo (see B n q)) ∧ ∀ a j, ¬ (a = 3 ∧ (j = 1 ∨ j = 3)) → m' a j = m a j := by
  have t3 := T.2.2.1
  have sr := see_rng T hq0
  obtain ⟨k, hk⟩ : ∃ k, kdo (see B n q) = k := ⟨_, rfl⟩
  have kr := kdo_rng (see B n q)
  rw [hk] at kr
  have l1 : ld (st m 3 1 k) 3 1 = k := by rw [ld_st_eq, w32_id (by omega) (by omega)]
  have l2 : ld (st m 3 1 k) 3 2 = q := by rw [ld_st_ne (by decide), h2]
  -- the end of it
  have s190 : ∀ {m1}, (∀ a j, ¬ (a = 3 ∧ (j = 1 ∨ j = 3)) → m1 a j = m a j) → ld m1 3 1 = k → ∃ m', cW_next_190 w e m1 = some (0, m') ∧ ld m' 3 2 = q ∧ ld m' 3 3 = ld m1 3 3 ∧ ld m' 3 1 = tkk w e q k ∧ ∀ a j, ¬ (a = 3 ∧ (j = 1 ∨ j = 3)) → m' a j = m a j := by
    intro m1 f1 k1
    have q1 : ld m1 3 2 = q := by rw [ldq (f1 3 2 (by decide)), h2]
    have s218 : w = 1 ∧ q = e ∧ (k = 1 ∨ k = 2) → ∃ m', cW_next_218 m1 = some (0, m') ∧ ld m' 3 2 = q ∧ ld m' 3 3 = ld m1 3 3 ∧ ld m' 3 1 = tkk w e q k ∧ ∀ a j, ¬ (a = 3 ∧ (j = 1 ∨ j = 3)) → m' a j = m a j := by
      intro z
      unfold cW_next_218 tkk
      rw [stf_eq, if_pos z]
      exact ⟨_, rfl, by rw [ld_st_ne (by decide), q1], by rw [ld_st_ne (by decide)], by rw [ld_st_eq]; rfl, fun a j y => by rw [st_at (by omega), f1 a j y]⟩
    have sno : ¬ (w = 1 ∧ q = e ∧ (k = 1 ∨ k = 2)) → ∃ m', (some (0, m1) : xr) = some (0, m') ∧ ld m' 3 2 = q ∧ ld m' 3 3 = ld m1 3 3 ∧ ld m' 3 1 = tkk w e q k ∧ ∀ a j, ¬ (a = 3 ∧ (j = 1 ∨ j = 3)) → m' a j = m a j := by
      intro z
      unfold tkk
      rw [if_neg z]
      exact ⟨m1, rfl, q1, rfl, k1, f1⟩
    unfold cW_next_190
    rw [w32_id (x := w) (by omega) (by omega), w32_id (x := e) (by omega) (by omega), q1, k1]
    by_cases c1 : w = 0
    · rw [if_pos c1]
      exact sno (fun z => absurd z.1 (by rw [c1]; decide))
    · rw [if_neg c1]
      by_cases c2 : q = e
      · rw [if_pos c2]
        by_cases c3 : k = 1
        · rw [if_pos c3]
          exact s218 ⟨hw.resolve_left c1, c2, Or.inl c3⟩
        · rw [if_neg c3]
          by_cases c4 : k = 2
          · rw [if_pos c4]
            exact s218 ⟨hw.resolve_left c1, c2, Or.inr c4⟩
          · rw [if_neg c4]
            exact sno (fun z => z.2.2.elim c3 c4)
      · rw [if_neg c2]
        exact sno (fun z => c2 z.2.1)
  have fin : ∀ x, rg x → (k = 1 ∨ k = 2 → 0 ≤ x ∧ x ≤ n) → ∃ m', cW_next_123 w e x (st m 3 1 k) = some (0, m') ∧ ld m' 3 2 = q ∧ ld m' 3 3 = (if k = 1 ∨ k = 2 then ren (Kk k) B n x else x) ∧ ld m' 3 1 = tkk w e q k ∧ ∀ a j, ¬ (a = 3 ∧ (j = 1 ∨ j = 3)) → m' a j = m a j := by
    intro x hx hxn
    obtain ⟨m1, hm1⟩ : ∃ m1, m1 = st (st m 3 1 k) 3 3 x := ⟨_, rfl⟩
    have f1 : ∀ a j, ¬ (a = 3 ∧ (j = 1 ∨ j = 3)) → m1 a j = m a j := fun a j y => by rw [hm1, st_at (by omega), st_at (by omega)]
    have k1 : ld m1 3 1 = k := by rw [hm1, ld_st_ne (by decide), l1]
    have x1 : ld m1 3 3 = x := by rw [hm1, ld_st_eq, w32_rg hx]
    unfold cW_next_123
    rw [stf_eq, ← hm1]
    by_cases c : k = 1 ∨ k = 2
    · have xn := hxn c
      obtain ⟨m2, a1, a2, a3⟩ := next_run c (v1 := w) (v2 := e) (n - x).toNat xLF (m := m1) (CT_cg T (f1 1 1 (by decide)) (fun i => f1 2 i (by omega))) (by omega) (by rw [xLF_eq]; omega) k1 (by rw [x1]; omega)
      obtain ⟨m3, b1, b2, b3, b4, b5⟩ := s190 (m1 := m2) (fun a j y => by rw [a3 a j (by omega), f1 a j y]) (by rw [ldq (a3 3 1 (by decide))]; exact k1)
      refine ⟨m3, by rw [a1]; exact b1, b2, ?_, b4, b5⟩
      rw [b3, a2, if_pos c]
      rfl
    · obtain ⟨m3, b1, b2, b3, b4, b5⟩ := s190 (m1 := m1) f1 k1
      refine ⟨m3, ?_, b2, by rw [b3, x1, if_neg c], b4, b5⟩
      rw [xLF_eq, cW_next_126, k1, if_neg (by omega), if_neg (by omega)]
      exact b1
  unfold cW_next_84 tke
  rw [h2, byteAt_see T hq0 (by omega), bnd_some, kindOf_ok sr.1 sr.2, bnd_some, hk, stf_eq, l1, l2]
  by_cases c0 : k = 0
  · rw [if_pos c0, if_pos c0]
    obtain ⟨m', b1, b2, b3, b4, b5⟩ := fin q ⟨by omega, by omega⟩ (fun z => by omega)
    exact ⟨m', b1, b2, by rw [b3, if_neg (by omega)], b4, b5⟩
  · have qn : q < n := by
      refine Decidable.byContradiction fun z => c0 ?_
      rw [← hk]
      unfold see kdo
      rw [if_neg z, if_pos rfl]
    rw [if_neg c0, if_neg c0]
    obtain ⟨m', b1, b2, b3, b4, b5⟩ := fin (q + 1) ⟨by omega, by omega⟩ (fun z => by omega)
    refine ⟨m', b1, b2, ?_, b4, b5⟩
    rw [b3]
    by_cases c3 : k = 3
    · rw [if_neg (by omega), if_pos c3]
    · rw [if_pos (by omega), if_neg c3]
