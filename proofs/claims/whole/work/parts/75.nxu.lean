/-! the program's next token: where it ends -/
def Kk (k c : Int) : Bool := if k = 1 then ltr c else dgt c
theorem kdo_K {k c : Int} (hk : k = 1 ∨ k = 2) (h0 : 0 ≤ c) : kdo c = k ↔ Kk k c = true := by
  unfold kdo Kk
  rw [if_neg (by omega)]
  rcases hk with rfl | rfl
  · rw [if_pos rfl]
    by_cases a : ltr c = true
    · rw [if_pos a]
      simp [a]
    · rw [if_neg a]
      constructor
      · intro z
        split at z <;> omega
      · intro z
        exact absurd z a
  · rw [if_neg (show ¬ ((2 : Int) = 1) by decide)]
    by_cases a : ltr c = true
    · rw [if_pos a]
      constructor
      · intro z; omega
      · intro z
        unfold ltr at a
        unfold dgt at z
        simp at a z
        omega
    · rw [if_neg a]
      by_cases b : dgt c = true
      · rw [if_pos b]
        simp [b]
      · rw [if_neg b]
        constructor
        · intro z; omega
        · intro z
          exact absurd z b
theorem next_run {B : Int → Int} {n k : Int} (hk : k = 1 ∨ k = 2) {v1 v2 : Int} : ∀ (r f : Nat) {m : xm}, CT m B n → (r : Int) ≤ n → r < f → ld m 3 1 = k → ld m 3 3 = n - (r : Int) → ∃ m', cW_next_126 f v1 v2 m = cW_next_190 v1 v2 m' ∧ ld m' 3 3 = rne (Kk k) B n r ∧ ∀ a j, ¬ (a = 3 ∧ j = 3) → m' a j = m a j := by
  intro r
  induction r with
  | zero =>
    intro f m T hr hf h1 h3
    obtain ⟨f, rfl⟩ : ∃ f', f = f' + 1 := ⟨f - 1, by omega⟩
    obtain ⟨t1, t2, t3, t4⟩ := T
    have e : cW_next_142 (fun v1 v2 m => cW_next_126 f v1 v2 m) v1 v2 m = cW_next_190 v1 v2 m := by
      unfold cW_next_142 cT_length
      rw [bnd_some, w32_ld, t1, if_pos (by omega)]
    refine ⟨m, ?_, by unfold rne; omega, fun _ _ _ => rfl⟩
    rw [cW_next_126, h1, e]
    rcases hk with z | z
    · rw [if_pos z]
    · rw [if_neg (by omega), if_pos z]
  | succ r ih =>
    intro f m T hr hf h1 h3
    obtain ⟨f, rfl⟩ : ∃ f', f = f' + 1 := ⟨f - 1, by omega⟩
    have T0 := T
    obtain ⟨t1, t2, t3, t4⟩ := T
    obtain ⟨p, hp⟩ : ∃ p, n - ((r + 1 : Nat) : Int) = p := ⟨_, rfl⟩
    have bp := t4 p (by omega) (by omega)
    rw [hp] at h3
    have kr := kdo_rng (B p)
    have e : ∃ m', cW_next_142 (fun v1 v2 m => cW_next_126 f v1 v2 m) v1 v2 m = cW_next_190 v1 v2 m' ∧ ld m' 3 3 = rne (Kk k) B n (r + 1) ∧ ∀ a j, ¬ (a = 3 ∧ j = 3) → m' a j = m a j := by
      unfold cW_next_142 cT_length
      rw [bnd_some, w32_ld, t1, h3, if_neg (by omega), cT_byteAt_ok (by omega) (by omega) (by omega), bnd_some, bp.1, kindOf_ok (by omega) (by omega), bnd_some, w32_id (x := kdo (B p)) (by omega) (by omega), h1, rne, hp]
      by_cases c : Kk k (B p) = true
      · rw [if_pos ((kdo_K hk bp.2.1).mpr c), stf_eq, h3, if_pos c]
        obtain ⟨m1, a1, a2, a3⟩ := ih f (m := st m 3 3 (p + 1)) (CT_cg T0 (st_at (by decide)) (fun i => st_at (by omega))) (by omega) (by omega) (by rw [ld_st_ne (by decide)]; exact h1) (by rw [ld_st_eq, w32_id (by omega) (by omega)]; omega)
        exact ⟨m1, a1, a2, fun a j z => by rw [a3 a j z, st_at z]⟩
      · rw [if_neg (fun z => c ((kdo_K hk bp.2.1).mp z)), if_neg c]
        exact ⟨m, rfl, h3, fun _ _ _ => rfl⟩
    obtain ⟨m', e1, e2⟩ := e
    refine ⟨m', ?_, e2⟩
    rw [cW_next_126, h1, e1]
    rcases hk with z | z
    · rw [if_pos z]
    · rw [if_neg (by omega), if_pos z]
