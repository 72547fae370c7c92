/-! the text: blanks, words -/
def blk (c : Int) : Bool := decide (c = 10) || decide (c = 32)
def ltr (c : Int) : Bool := decide (97 ≤ c) && decide (c ≤ 122)
def dgt (c : Int) : Bool := decide (48 ≤ c) && decide (c ≤ 57)
/-- where a run of such ends; r places are left -/
def rne (K : Int → Bool) (B : Int → Int) (n : Int) : Nat → Int
  | 0 => n
  | r + 1 => if K (B (n - ((r + 1 : Nat) : Int))) = true then rne K B n r else n - ((r + 1 : Nat) : Int)
def ren (K : Int → Bool) (B : Int → Int) (n p : Int) : Int := rne K B n (n - p).toNat
theorem rne_rng {K : Int → Bool} {B : Int → Int} {n : Int} : ∀ r : Nat, n - (r : Int) ≤ rne K B n r ∧ rne K B n r ≤ n
  | 0 => by unfold rne; omega
  | r + 1 => by
    have := rne_rng (K := K) (B := B) (n := n) r
    unfold rne
    split <;> omega
theorem ren_rng {K : Int → Bool} {B : Int → Int} {n p : Int} (h : p ≤ n) : p ≤ ren K B n p ∧ ren K B n p ≤ n := by
  have := rne_rng (K := K) (B := B) (n := n) (n - p).toNat
  unfold ren
  omega
theorem ren_stop {K : Int → Bool} {B : Int → Int} {n p : Int} (h : p ≤ n) (hs : p = n ∨ K (B p) = false) : ren K B n p = p := by
  unfold ren
  rcases Nat.eq_zero_or_pos (n - p).toNat with z | z
  · rw [z]; unfold rne; omega
  · obtain ⟨r, hr⟩ : ∃ r, (n - p).toNat = r + 1 := ⟨(n - p).toNat - 1, by omega⟩
    have e : n - ((r + 1 : Nat) : Int) = p := by omega
    rw [hr]
    unfold rne
    rw [e]
    rcases hs with y | y
    · omega
    · rw [y, if_neg (by decide)]
theorem ren_go {K : Int → Bool} {B : Int → Int} {n p : Int} (h : p < n) (hs : K (B p) = true) : ren K B n p = ren K B n (p + 1) := by
  unfold ren
  obtain ⟨r, hr⟩ : ∃ r, (n - p).toNat = r + 1 := ⟨(n - p).toNat - 1, by omega⟩
  have e : n - ((r + 1 : Nat) : Int) = p := by omega
  have e2 : (n - (p + 1)).toNat = r := by omega
  rw [hr, e2]
  conv => lhs; unfold rne
  rw [e, hs, if_pos rfl]
/-- the reference has the text -/
def RT (m : xm) (B : Int → Int) (n : Int) : Prop := ld m 78 3 = n ∧ 0 ≤ n ∧ n ≤ 1600 ∧ ∀ i, 0 ≤ i → i < n → ld m 79 i = B i ∧ 0 ≤ B i ∧ B i ≤ 255
theorem RT_cg {m m' : xm} {B : Int → Int} {n : Int} (T : RT m B n) (e1 : m' 78 3 = m 78 3) (e2 : ∀ k, m' 79 k = m 79 k) : RT m' B n := ⟨by rw [ldq e1]; exact T.1, T.2.1, T.2.2.1, fun i z1 z2 => by rw [ldq (e2 i)]; exact T.2.2.2 i z1 z2⟩
def see (B : Int → Int) (n q : Int) : Int := if q < n then B q else -1
theorem look_loop {B : Int → Int} {n : Int} : ∀ (r f : Nat) {m : xm}, RT m B n → (r : Int) ≤ n → r < f → ld m 78 2 = n - (r : Int) → ∃ m', r_look_0 f m = some (see B n (rne blk B n r), m') ∧ ld m' 78 2 = rne blk B n r ∧ ∀ a k, ¬ (a = 78 ∧ k = 2) → m' a k = m a k := by
  intro r
  induction r with
  | zero =>
    intro f m T hr hf h2
    obtain ⟨f, rfl⟩ : ∃ f', f = f' + 1 := ⟨f - 1, by omega⟩
    obtain ⟨t1, t2, t3, t4⟩ := T
    rw [r_look_0, t1, if_pos (by omega)]
    unfold r_look_52 rne see
    rw [t1, if_pos (by omega), if_neg (by omega)]
    exact ⟨m, rfl, by omega, fun _ _ _ => rfl⟩
  | succ r ih =>
    intro f m T hr hf h2
    obtain ⟨f, rfl⟩ : ∃ f', f = f' + 1 := ⟨f - 1, by omega⟩
    have T0 := T
    obtain ⟨t1, t2, t3, t4⟩ := T
    obtain ⟨k, hk⟩ : ∃ k, n - ((r + 1 : Nat) : Int) = k := ⟨_, rfl⟩
    have bk := t4 k (by omega) (by omega)
    rw [hk] at h2
    have go : ∃ m', r_look_39 (fun m => r_look_0 f m) m = some (see B n (rne blk B n r), m') ∧ ld m' 78 2 = rne blk B n r ∧ ∀ a k, ¬ (a = 78 ∧ k = 2) → m' a k = m a k := by
      unfold r_look_39
      rw [stf_eq, h2]
      obtain ⟨m1, a1, a2, a3⟩ := ih f (m := st m 78 2 (k + 1)) (RT_cg T0 (st_at (by decide)) (fun i => st_at (by omega))) (by omega) (by omega) (by rw [ld_st_eq, w32_id (by omega) (by omega)]; omega)
      exact ⟨m1, a1, a2, fun a j z => by rw [a3 a j z, st_at z]⟩
    rw [r_look_0, t1, h2, if_neg (by omega), ial_in (by omega) (by rw [al79]; omega), bk.1, w32_id (x := B k) (by omega) (by omega), rne, hk]
    by_cases c1 : B k = 10
    · rw [if_pos c1, if_pos (show blk (B k) = true by unfold blk; simp [c1])]
      exact go
    · rw [if_neg c1, ial_in (by omega) (by rw [al79]; omega), bk.1, w32_id (x := B k) (by omega) (by omega)]
      by_cases c2 : B k = 32
      · rw [if_pos c2, if_pos (show blk (B k) = true by unfold blk; simp [c2])]
        exact go
      · rw [if_neg c2, if_neg (show ¬ (blk (B k) = true) by unfold blk; simp [c1, c2])]
        unfold r_look_52 see
        rw [t1, h2, if_neg (by omega), ial_in (by omega) (by rw [al79]; omega), bk.1, if_pos (by omega)]
        exact ⟨m, rfl, h2, fun _ _ _ => rfl⟩
theorem r_look_ok {B : Int → Int} {n p : Int} {m : xm} (T : RT m B n) (h2 : ld m 78 2 = p) (hp0 : 0 ≤ p) (hp1 : p ≤ n) : ∃ m', r_look m = some (see B n (ren blk B n p), m') ∧ ld m' 78 2 = ren blk B n p ∧ ∀ a k, ¬ (a = 78 ∧ k = 2) → m' a k = m a k := by
  have t3 := T.2.2.1
  exact look_loop (n - p).toNat xLF T (by omega) (by rw [xLF_eq]; omega) (by omega)
