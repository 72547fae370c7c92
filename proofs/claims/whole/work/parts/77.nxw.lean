/-! the program's next token -/
def wl (k : Int) : Int := if k = 1 ∨ k = 2 then 1 else 0
theorem cW_next_ok {B : Int → Int} {n e k : Int} {m : xm} (T : CT m B n) (h4 : ld m 3 4 = 0) (h1 : ld m 3 1 = k) (h3 : ld m 3 3 = e) (he0 : 0 ≤ e) (he1 : e ≤ n) : ∃ m', cW_next m = some (0, m') ∧ ld m' 3 2 = ren blk B n e ∧ ld m' 3 3 = tke B n (ren blk B n e) ∧ ld m' 3 1 = tkk (wl k) e (ren blk B n e) (kdo (see B n (ren blk B n e))) ∧ ∀ a j, ¬ (a = 3 ∧ 1 ≤ j ∧ j ≤ 3) → m' a j = m a j := by
  have t3 := T.2.2.1
  have rr := ren_rng (K := blk) (B := B) (n := n) he1
  have go : ∀ w, w = 0 ∨ w = 1 → ∃ m', cW_next_29 w m = some (0, m') ∧ ld m' 3 2 = ren blk B n e ∧ ld m' 3 3 = tke B n (ren blk B n e) ∧ ld m' 3 1 = tkk w e (ren blk B n e) (kdo (see B n (ren blk B n e))) ∧ ∀ a j, ¬ (a = 3 ∧ 1 ≤ j ∧ j ≤ 3) → m' a j = m a j := by
    intro w hw
    obtain ⟨m1, a1, a2, a3⟩ := next_skip (v1 := w) (v2 := e) (n - e).toNat xLF (m := st m 3 2 e) (CT_cg T (st_at (by decide)) (fun i => st_at (by omega))) (by omega) (by rw [xLF_eq]; omega) (by rw [ld_st_eq, w32_id (by omega) (by omega)]; omega)
    obtain ⟨m2, b1, b2, b3, b4, b5⟩ := next_84 (CT_cg T (by rw [a3 1 1 (by decide), st_at (by decide)]) (fun i => by rw [a3 2 i (by omega), st_at (by omega)])) (q := ren blk B n e) a2 (by omega) rr.2 hw he0 he1
    refine ⟨m2, ?_, b2, b3, b4, fun a j z => by rw [b5 a j (by omega), a3 a j (by omega), st_at (by omega)]⟩
    unfold cW_next_29
    rw [xlt_eq, stf_eq, h3, a1]
    exact b1
  unfold cW_next cW_next_24 wl
  rw [if_pos h4, h1]
  by_cases c1 : k = 1
  · rw [if_pos c1, if_pos (Or.inl c1)]
    exact go 1 (Or.inr rfl)
  · rw [if_neg c1]
    by_cases c2 : k = 2
    · rw [if_pos c2, if_pos (Or.inr c2)]
      exact go 1 (Or.inr rfl)
    · rw [if_neg c2, if_neg (show ¬ (k = 1 ∨ k = 2) from fun z => z.elim c1 c2)]
      exact go 0 (Or.inl rfl)
