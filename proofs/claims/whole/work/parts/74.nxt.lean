/-! the program's next token -/
def CT (m : xm) (B : Int → Int) (n : Int) : Prop := ld m 1 1 = n ∧ 0 ≤ n ∧ n ≤ 1600 ∧ ∀ i, 0 ≤ i → i < n → ld m 2 i = B i ∧ 0 ≤ B i ∧ B i ≤ 255
theorem CT_cg {m m' : xm} {B : Int → Int} {n : Int} (T : CT m B n) (e1 : m' 1 1 = m 1 1) (e2 : ∀ k, m' 2 k = m 2 k) : CT m' B n := ⟨by rw [ldq e1]; exact T.1, T.2.1, T.2.2.1, fun i z1 z2 => by rw [ldq (e2 i)]; exact T.2.2.2 i z1 z2⟩
def kdo (c : Int) : Int := if c = -1 then 0 else if ltr c = true then 1 else if dgt c = true then 2 else 3
theorem kdo_rng (c : Int) : 0 ≤ kdo c ∧ kdo c ≤ 3 := by
  unfold kdo
  split
  · omega
  · split
    · omega
    · split <;> omega
theorem see_rng {m : xm} {B : Int → Int} {n q : Int} (T : CT m B n) (h : 0 ≤ q) : -1 ≤ see B n q ∧ see B n q ≤ 255 := by
  unfold see
  split
  · next c => have := T.2.2.2 q h c; omega
  · omega
theorem byteAt_see {m : xm} {B : Int → Int} {n q : Int} (T : CT m B n) (h : 0 ≤ q) (h2 : q ≤ 100000) : cT_byteAt q m = some (see B n q, m) := by
  obtain ⟨t1, t2, t3, t4⟩ := T
  unfold see
  by_cases c : q < n
  · rw [if_pos c, cT_byteAt_ok h (by omega) (by omega), (t4 q h c).1]
  · rw [if_neg c]
    unfold cT_byteAt
    rw [w32_id (x := q) (by omega) (by omega), if_neg (by omega), t1, if_pos (by omega)]
theorem kindOf_ok {c : Int} {m : xm} (h1 : -1 ≤ c) (h2 : c ≤ 255) : cW_kindOf c m = some (kdo c, m) := by
  unfold cW_kindOf cW_kindOf_21 kdo
  rw [w32_id (x := c) (by omega) (by omega)]
  by_cases c0 : c = -1
  · rw [if_pos c0, if_pos c0]
  · rw [if_neg c0, if_neg c0]
    by_cases c1 : c < 97
    · rw [if_pos c1, if_neg (show ¬ (ltr c = true) by unfold ltr; simp; omega)]
      by_cases c2 : c < 48
      · rw [if_pos c2, if_neg (show ¬ (dgt c = true) by unfold dgt; simp; omega)]
      · rw [if_neg c2]
        by_cases c3 : 57 < c
        · rw [if_pos c3, if_neg (show ¬ (dgt c = true) by unfold dgt; simp; omega)]
        · rw [if_neg c3, if_pos (show dgt c = true by unfold dgt; simp; omega)]
    · rw [if_neg c1]
      by_cases c2 : 122 < c
      · rw [if_pos c2, if_neg (show ¬ (ltr c = true) by unfold ltr; simp; omega), if_neg (by omega), if_pos (by omega), if_neg (show ¬ (dgt c = true) by unfold dgt; simp; omega)]
      · rw [if_neg c2, if_pos (show ltr c = true by unfold ltr; simp; omega)]
theorem isBlank_ok {c : Int} {m : xm} (h1 : -1 ≤ c) (h2 : c ≤ 255) : cW_isBlank c m = some (if blk c = true then 1 else 0, m) := by
  unfold cW_isBlank blk
  rw [w32_id (x := c) (by omega) (by omega)]
  by_cases c1 : c = 10
  · rw [if_pos c1, if_pos (by simp [c1])]
  · rw [if_neg c1]
    by_cases c2 : c = 32
    · rw [if_pos c2, if_pos (by simp [c2])]
    · rw [if_neg c2, if_neg (by simp [c1, c2])]
theorem next_skip {B : Int → Int} {n : Int} {v1 v2 : Int} : ∀ (r f : Nat) {m : xm}, CT m B n → (r : Int) ≤ n → r < f → ld m 3 2 = n - (r : Int) → ∃ m', cW_next_40 f v1 v2 m = cW_next_84 v1 v2 m' ∧ ld m' 3 2 = rne blk B n r ∧ ∀ a k, ¬ (a = 3 ∧ k = 2) → m' a k = m a k := by
  intro r
  induction r with
  | zero =>
    intro f m T hr hf h2
    obtain ⟨f, rfl⟩ : ∃ f', f = f' + 1 := ⟨f - 1, by omega⟩
    obtain ⟨t1, t2, t3, t4⟩ := T
    rw [cW_next_40]
    unfold cT_length rne
    rw [bnd_some, w32_ld, t1, if_pos (by omega)]
    exact ⟨m, rfl, by omega, fun _ _ _ => rfl⟩
  | succ r ih =>
    intro f m T hr hf h2
    obtain ⟨f, rfl⟩ : ∃ f', f = f' + 1 := ⟨f - 1, by omega⟩
    have T0 := T
    obtain ⟨t1, t2, t3, t4⟩ := T
    obtain ⟨k, hk⟩ : ∃ k, n - ((r + 1 : Nat) : Int) = k := ⟨_, rfl⟩
    have bk := t4 k (by omega) (by omega)
    rw [hk] at h2
    rw [cW_next_40, rne, hk]
    unfold cT_length
    rw [bnd_some, w32_ld, t1, h2, if_neg (by omega), cT_byteAt_ok (by omega) (by omega) (by omega), bnd_some, bk.1, isBlank_ok (by omega) (by omega), bnd_some]
    by_cases c : blk (B k) = true
    · rw [if_pos c, if_neg (by decide), stf_eq, h2, if_pos c]
      obtain ⟨m1, a1, a2, a3⟩ := ih f (m := st m 3 2 (k + 1)) (CT_cg T0 (st_at (by decide)) (fun i => st_at (by omega))) (by omega) (by omega) (by rw [ld_st_eq, w32_id (by omega) (by omega)]; omega)
      exact ⟨m1, a1, a2, fun a j z => by rw [a3 a j z, st_at z]⟩
    · rw [if_neg c, if_pos (by decide), if_neg c]
      exact ⟨m, rfl, h2, fun _ _ _ => rfl⟩
