/-! numbers in both -/
theorem rne_all {K : Int → Bool} {B : Int → Int} {n : Int} : ∀ (r : Nat) {i : Int}, n - (r : Int) ≤ i → i < rne K B n r → K (B i) = true
  | 0, i, h1, h2 => by unfold rne at h2; omega
  | r + 1, i, h1, h2 => by
    unfold rne at h2
    by_cases c : K (B (n - ((r + 1 : Nat) : Int))) = true
    · rw [if_pos c] at h2
      by_cases d : i = n - ((r + 1 : Nat) : Int)
      · rw [d]; exact c
      · exact rne_all r (by omega) h2
    · rw [if_neg c] at h2
      omega
theorem ren_all {K : Int → Bool} {B : Int → Int} {n p i : Int} (h : p ≤ n) (h1 : p ≤ i) (h2 : i < ren K B n p) : K (B i) = true := rne_all (n - p).toNat (by omega) h2
theorem ren_end {K : Int → Bool} {B : Int → Int} {n p : Int} : ren K B n p = n ∨ K (B (ren K B n p)) = false := rne_end _
/-- the number told by the r bytes ahead of e, behind v -/
def nvl (B : Int → Int) (e : Int) : Nat → Int → Int
  | 0, v => v
  | r + 1, v => nvl B e r (10 * v + B (e - ((r + 1 : Nat) : Int)) - 48)
def nmv (B : Int → Int) (n : Int) (s : Int × Int) : Int := nvl B (tto B n s) (tto B n s - tq B n s).toNat 0
def sNum (B : Int → Int) (n lo hi : Int) (s : Int × Int) : Sum (Int × Int) Int :=
  if tkd B n s = 2 then (if tto B n s - tq B n s ≤ 4 then (if lo ≤ nmv B n s ∧ nmv B n s ≤ hi then Sum.inr (nmv B n s) else Sum.inl (2, tq B n s)) else Sum.inl (1, tq B n s + 4)) else Sum.inl (1, tq B n s)
theorem nvl_rng {B : Int → Int} {e : Int} : ∀ (r : Nat) {v : Int}, (∀ i, e - (r : Int) ≤ i → i < e → dgt (B i) = true) → 0 ≤ v → (v + 1) * 10 ^ r ≤ 10000 → 0 ≤ nvl B e r v ∧ nvl B e r v ≤ 9999
  | 0, v, _, h0, h1 => by
    unfold nvl
    rw [Int.pow_zero] at h1
    omega
  | r + 1, v, hd, h0, h1 => by
    have d := hd (e - ((r + 1 : Nat) : Int)) (by omega) (by omega)
    unfold dgt at d; simp only [Bool.and_eq_true, decide_eq_true_eq] at d
    unfold nvl
    refine nvl_rng r (fun i z1 z2 => hd i (by omega) z2) (by omega) ?_
    rw [Int.pow_succ] at h1
    have p0 : (0 : Int) ≤ 10 ^ r := Int.le_of_lt (Int.pow_pos (by decide))
    have q1 : (10 * v + B (e - ((r + 1 : Nat) : Int)) - 48 + 1) * 10 ^ r ≤ (10 * (v + 1)) * 10 ^ r := Int.mul_le_mul_of_nonneg_right (by omega) p0
    have q2 : (10 * (v + 1)) * 10 ^ r = (v + 1) * (10 ^ r * 10) := by
      rw [Int.mul_comm 10 (v + 1), Int.mul_assoc, Int.mul_comm 10 (10 ^ r)]
    omega
theorem p10_4 : ∀ r : Nat, r ≤ 4 → ((0 : Int) + 1) * 10 ^ r ≤ 10000 := by decide
theorem nmv_rng {B : Int → Int} {n : Int} {s : Int × Int} (ok : okT n s) (h : tkd B n s = 2) (h4 : tto B n s - tq B n s ≤ 4) : 0 ≤ nmv B n s ∧ nmv B n s ≤ 9999 := by
  have t := tto_2 h
  have tr := tto_rng (B := B) ok
  have tr2 := tq_rng (B := B) ok
  unfold nmv
  refine nvl_rng _ (fun i z1 z2 => ?_) (by omega) (p10_4 _ (by omega))
  rw [t.1] at z2
  exact ren_all tr2.2 (by omega) z2
theorem sNum_rng {B : Int → Int} {n lo hi v : Int} {s : Int × Int} (h : sNum B n lo hi s = Sum.inr v) : lo ≤ v ∧ v ≤ hi ∧ tkd B n s = 2 := by
  unfold sNum at h
  split at h
  · next c =>
    split at h
    · split at h
      · next d => cases h; exact ⟨d.1, d.2, c⟩
      · cases h
    · cases h
  · cases h
section NUM
variable {B : Int → Int} {n : Int} {m : xm} {s : Int × Int}
theorem needNumber_loop {lo hi e : Int} (T : CT m B n) (h3 : ld m 3 3 = e) (he : e ≤ n) : ∀ (r f : Nat) {v : Int}, (r : Int) ≤ e → r < f → cW_needNumber_49 f lo hi v (e - (r : Int)) m = cW_needNumber_82 lo hi (nvl B e r v) m := by
  have t1 := T.1
  have t3 := T.2.2.1
  intro r
  induction r with
  | zero =>
    intro f v hr hf
    obtain ⟨f, rfl⟩ : ∃ f', f = f' + 1 := ⟨f - 1, by omega⟩
    rw [cW_needNumber_49, h3, w32_id (by omega) (by omega), if_pos (by omega), nvl]
  | succ r ih =>
    intro f v hr hf
    obtain ⟨f, rfl⟩ : ∃ f', f = f' + 1 := ⟨f - 1, by omega⟩
    have bk := T.2.2.2 (e - ((r + 1 : Nat) : Int)) (by omega) (by omega)
    rw [cW_needNumber_49, h3, w32_id (by omega) (by omega), if_neg (by omega), cT_byteAt_ok (by omega) (by omega) (by omega), bnd_some, xlt_eq, bk.1, show e - ((r + 1 : Nat) : Int) + 1 = e - (r : Int) by omega, ih f (by omega) (by omega), nvl]
theorem cW_needNumber_S {lo hi : Int} (S : CS m B n s) (hlo : 0 ≤ lo) (hlo2 : lo ≤ 9999) (hhi : rg hi) : (∀ v, sNum B n lo hi s = Sum.inr v → ∃ m', cW_needNumber lo hi m = some (v, m') ∧ CS m' B n (nx B n s) ∧ F3 m m') ∧ (∀ k p, sNum B n lo hi s = Sum.inl (k, p) → ∃ m', cW_needNumber lo hi m = some (lo, m') ∧ CF m' k p ∧ F3 m m') := by
  have S0 := S
  obtain ⟨T, ok, f4, f5, f1, f2, f3⟩ := S
  have t3 := T.2.2.1
  have tr := tto_rng (B := B) ok
  have tr2 := tq_rng (B := B) ok
  have o1 := ok.1
  unfold cW_needNumber sNum
  rw [f1, f2, f3]
  by_cases c : tkd B n s = 2
  · rw [if_pos c, if_pos c, w32_id (by omega) (by omega)]
    by_cases d : tto B n s - tq B n s ≤ 4
    · have nr := nmv_rng ok c d
      have e := needNumber_loop (lo := lo) (hi := hi) T f3 tr.2.1 (tto B n s - tq B n s).toNat xLF (v := 0) (by omega) (by rw [xLF_eq]; omega)
      rw [show tto B n s - (((tto B n s - tq B n s).toNat : Nat) : Int) = tq B n s by omega, show nvl B (tto B n s) (tto B n s - tq B n s).toNat 0 = nmv B n s from rfl] at e
      rw [if_pos d, if_pos d, e]
      unfold cW_needNumber_82 cW_needNumber_92
      rw [w32_id (x := nmv B n s) (by omega) (by omega), w32_id (x := lo) (by omega) (by omega), w32_rg hhi]
      by_cases g : lo ≤ nmv B n s ∧ nmv B n s ≤ hi
      · obtain ⟨m', a1, a2, a3⟩ := cW_next_S S0
        rw [if_pos g, if_neg (by omega), if_pos g.2, a1, bnd_some]
        exact ⟨fun v z => by cases z; exact ⟨m', rfl, a2, a3⟩, fun k p z => by cases z⟩
      · obtain ⟨m', a1, a2, a3⟩ := cW_failHere_S (k := 2) S0 (by decide) (by decide) (by decide)
        rw [if_neg g, a1, bnd_some]
        refine ⟨fun v z => (by cases z), fun k p z => ?_⟩
        cases z
        refine ⟨m', ?_, a2, a3⟩
        split
        · rfl
        · rw [if_neg (by omega)]
    · obtain ⟨m', a1, a2, a3⟩ := cW_fail_S (k := 1) (p := tq B n s + 4) S0 (by decide) (by decide) (by decide) ⟨by omega, by omega⟩
      rw [if_neg d, if_neg d, a1, bnd_some]
      exact ⟨fun v z => (by cases z), fun k p z => by cases z; exact ⟨m', rfl, a2, a3⟩⟩
  · obtain ⟨m', a1, a2, a3⟩ := cW_failHere_S (k := 1) S0 (by decide) (by decide) (by decide)
    rw [if_neg c, if_neg c, a1, bnd_some]
    exact ⟨fun v z => (by cases z), fun k p z => by cases z; exact ⟨m', rfl, a2, a3⟩⟩
theorem cW_needNumber_F {lo hi k p : Int} (F : CF m k p) : cW_needNumber lo hi m = some (lo, m) := by
  unfold cW_needNumber
  rw [F.2.2.2, if_neg (by decide), cW_failHere_F F, bnd_some]
/-- the reference's loop over digits: all of them -/
theorem number_loop {lo hi q e : Int} (he : e ≤ n) (hd : ∀ i, q ≤ i → i < e → dgt (B i) = true) (hq : 0 ≤ q) (h4 : e - q ≤ 4) (hE : e = n ∨ dgt (B e) = false) : ∀ (r f : Nat) {v : Int} {m : xm}, RT m B n → ld m 78 2 = e - (r : Int) → q ≤ e - (r : Int) → r < f → ∃ m', r_number_49 f lo hi q v m = r_number_129 lo hi q (nvl B e r v) m' ∧ ld m' 78 2 = e ∧ ∀ a k, ¬ (a = 78 ∧ k = 2) → m' a k = m a k := by
  intro r
  induction r with
  | zero =>
    intro f v m T h2 hr hf
    obtain ⟨f, rfl⟩ : ∃ f', f = f' + 1 := ⟨f - 1, by omega⟩
    have t3 := T.2.2.1
    refine ⟨m, ?_, by rw [h2]; omega, fun _ _ _ => rfl⟩
    rw [r_number_49, T.1, h2, nvl]
    by_cases c : e = n
    · rw [if_pos (by omega)]
    · have bk := T.2.2.2 (e - ((0 : Nat) : Int)) (by omega) (by omega)
      rw [if_neg (by omega), ial_in (by omega) (by rw [al79]; omega), bk.1, r_isDigit_ok ⟨by omega, by omega⟩, bnd_some, i01, if_neg (bF (show dgt (B (e - ((0 : Nat) : Int))) = false by rw [show e - ((0 : Nat) : Int) = e by omega]; exact hE.resolve_left c)), if_pos rfl]
  | succ r ih =>
    intro f v m T h2 hr hf
    obtain ⟨f, rfl⟩ : ∃ f', f = f' + 1 := ⟨f - 1, by omega⟩
    have t3 := T.2.2.1
    have bk := T.2.2.2 (e - ((r + 1 : Nat) : Int)) (by omega) (by omega)
    obtain ⟨m1, a1, a2, a3⟩ := ih f (v := 10 * v + B (e - ((r + 1 : Nat) : Int)) - 48) (m := st m 78 2 (e - ((r + 1 : Nat) : Int) + 1)) (RT_cg T (st_at (by decide)) (fun i => st_at (by omega))) (by rw [ld_st_eq, w32_id (by omega) (by omega)]; omega) (by omega) (by omega)
    refine ⟨m1, ?_, a2, fun a j z => by rw [a3 a j z, st_at z]⟩
    rw [r_number_49, T.1, h2, if_neg (by omega), ial_in (by omega) (by rw [al79]; omega), bk.1, r_isDigit_ok ⟨by omega, by omega⟩, bnd_some, i01, if_pos (hd _ (by omega) (by omega)), if_neg (by decide), h2, w32_id (by omega) (by omega), if_neg (by omega), ial_in (by omega) (by rw [al79]; omega), bk.1, xlt_eq, stf_eq, a1, nvl]
/-- too many digits -/
theorem number_bad {lo hi q e : Int} (he : e ≤ n) (hd : ∀ i, q ≤ i → i < e → dgt (B i) = true) (hq : 0 ≤ q) (h4 : 4 < e - q) : ∀ (r f : Nat) {v : Int} {m : xm}, RT m B n → ld m 78 5 = 0 → ld m 78 2 = q + 4 - (r : Int) → r ≤ 4 → r < f → ∃ m', r_number_49 f lo hi q v m = some (0, m') ∧ RB m' 1 (q + 4) ∧ FR m m' := by
  intro r
  induction r with
  | zero =>
    intro f v m T h5 h2 hr hf
    obtain ⟨f, rfl⟩ : ∃ f', f = f' + 1 := ⟨f - 1, by omega⟩
    have t3 := T.2.2.1
    have bk := T.2.2.2 (q + 4 - ((0 : Nat) : Int)) (by omega) (by omega)
    rw [r_number_49, T.1, h2, if_neg (by omega), ial_in (by omega) (by rw [al79]; omega), bk.1, r_isDigit_ok ⟨by omega, by omega⟩, bnd_some, i01, if_pos (hd _ (by omega) (by omega)), if_neg (by decide), h2, w32_id (by omega) (by omega), if_pos (by omega)]
    unfold r_number_85 r_fail
    rw [if_pos h5, stf_eq, stf_eq, bnd_some, h2]
    refine ⟨_, rfl, ⟨by decide, ?_, ?_⟩, FR_trans (FR_st (by decide)) (FR_st (by decide))⟩
    · rw [ld_st_ne (by decide), ld_st_eq]; rfl
    · rw [ld_st_eq, w32_id (by omega) (by omega)]; omega
  | succ r ih =>
    intro f v m T h5 h2 hr hf
    obtain ⟨f, rfl⟩ : ∃ f', f = f' + 1 := ⟨f - 1, by omega⟩
    have t3 := T.2.2.1
    have bk := T.2.2.2 (q + 4 - ((r + 1 : Nat) : Int)) (by omega) (by omega)
    obtain ⟨m1, a1, a2, a3⟩ := ih f (v := 10 * v + B (q + 4 - ((r + 1 : Nat) : Int)) - 48) (m := st m 78 2 (q + 4 - ((r + 1 : Nat) : Int) + 1)) (RT_cg T (st_at (by decide)) (fun i => st_at (by omega))) (by rw [ld_st_ne (by decide)]; exact h5) (by rw [ld_st_eq, w32_id (by omega) (by omega)]; omega) (by omega) (by omega)
    refine ⟨m1, ?_, a2, FR_trans (FR_st (by decide)) a3⟩
    rw [r_number_49, T.1, h2, if_neg (by omega), ial_in (by omega) (by rw [al79]; omega), bk.1, r_isDigit_ok ⟨by omega, by omega⟩, bnd_some, i01, if_pos (hd _ (by omega) (by omega)), if_neg (by decide), h2, w32_id (by omega) (by omega), if_neg (by omega), ial_in (by omega) (by rw [al79]; omega), bk.1, xlt_eq, stf_eq, a1]
theorem r_number_S {lo hi : Int} (S : RS m B n s) (hlo : rg lo) (hhi : rg hi) : (∀ v, sNum B n lo hi s = Sum.inr v → ∃ m', r_number lo hi m = some (v, m') ∧ RS m' B n (nx B n s) ∧ FR m m') ∧ (∀ k p, sNum B n lo hi s = Sum.inl (k, p) → ∃ r m', r_number lo hi m = some (r, m') ∧ (0 ≤ r ∧ r ≤ 9999) ∧ RB m' k p ∧ FR m m') := by
  obtain ⟨m1, a1, a2, a3, a4⟩ := r_look_S S
  have ok := S.2.1
  have T := a2.1
  have t3 := T.2.2.1
  have tr := tto_rng (B := B) ok
  have tr2 := tq_rng (B := B) ok
  have o1 := ok.1
  have l1 := hlo.1
  have l2 := hlo.2
  have l3 := hhi.1
  have l4 := hhi.2
  have s30 : ∃ m', r_number_30 m1 = some (0, m') ∧ RB m' 1 (tq B n s) ∧ FR m m' := by
    obtain ⟨m2, b1, b2, b3⟩ := r_failAt (k := 1) a2 a3 (by decide) (by decide) (by decide)
    unfold r_number_30
    rw [b1, bnd_some]
    exact ⟨m2, rfl, b2, FR_trans a4 b3⟩
  have hno : tkd B n s ≠ 2 → (∀ v, sNum B n lo hi s = Sum.inr v → ∃ m', r_number_30 m1 = some (v, m') ∧ RS m' B n (nx B n s) ∧ FR m m') ∧ (∀ k p, sNum B n lo hi s = Sum.inl (k, p) → ∃ r m', r_number_30 m1 = some (r, m') ∧ (0 ≤ r ∧ r ≤ 9999) ∧ RB m' k p ∧ FR m m') := by
    intro c
    obtain ⟨m2, b1, b2, b3⟩ := s30
    unfold sNum
    rw [if_neg c]
    exact ⟨fun v z => (by cases z), fun k p z => by cases z; exact ⟨0, m2, b1, by omega, b2, b3⟩⟩
  unfold r_number
  rw [if_pos S.2.2.1, a1, bnd_some, r_isDigit_ok (see_rg (RT_TB T) ok), bnd_some, i01]
  by_cases l : dgt (see B n (tq B n s)) = true
  · rw [if_pos l, if_neg (by decide)]
    by_cases j : jnd B n s
    · rw [if_pos ((RS_jnd a2 a3).mpr j)]
      exact hno (fun z => (tkd_2.mp z).2 j)
    · rw [if_neg (fun z => j ((RS_jnd a2 a3).mp z)), a3]
      have c : tkd B n s = 2 := tkd_2.mpr ⟨l, j⟩
      have tt := tto_2 c
      have hd : ∀ i, tq B n s ≤ i → i < tto B n s → dgt (B i) = true := fun i z1 z2 => ren_all tr2.2 z1 (by rw [← tt.1]; exact z2)
      have hE : tto B n s = n ∨ dgt (B (tto B n s)) = false := by rw [tt.1]; exact ren_end
      unfold sNum
      rw [if_pos c]
      by_cases d : tto B n s - tq B n s ≤ 4
      · have nr := nmv_rng ok c d
        obtain ⟨m2, b1, b2, b3⟩ := number_loop (lo := lo) (hi := hi) tr.2.1 hd (by omega) d hE (tto B n s - tq B n s).toNat xLF (v := 0) T (by omega) (by omega) (by rw [xLF_eq]; omega)
        rw [show nvl B (tto B n s) (tto B n s - tq B n s).toNat 0 = nmv B n s from rfl] at b1
        obtain ⟨m3, hm3⟩ : ∃ m3, m3 = st m2 78 4 (tto B n s) := ⟨_, rfl⟩
        have R3 : RS m3 B n (nx B n s) := RS_nx a2 (Or.inr c) (by rw [hm3, ld_st_ne (by decide), b2]) (by rw [hm3, ld_st_eq, w32_id (by omega) (by omega)]) (fun a j g => by rw [hm3, st_at (by omega), b3 a j (by omega)])
        have F3' : FR m m3 := FR_trans a4 (FR_trans (m2 := m2) (fun a j g => b3 a j (by omega)) (by rw [hm3]; exact FR_st (by decide)))
        rw [if_pos d, b1]
        unfold r_number_129
        rw [stf_eq, b2, ← hm3, w32_id (x := nmv B n s) (by omega) (by omega), w32_rg hlo, w32_rg hhi, r_isIn_ok (by omega) (by omega) (by omega) (by omega) (by omega) (by omega), bnd_some, i01]
        by_cases g : lo ≤ nmv B n s ∧ nmv B n s ≤ hi
        · rw [if_pos g, if_pos g, if_neg (by decide)]
          exact ⟨fun v z => by cases z; exact ⟨m3, rfl, R3, F3'⟩, fun k p z => by cases z⟩
        · obtain ⟨m4, c1, c2, c3⟩ := r_fail_S (k := 2) (p := tq B n s) R3 (by decide) (by decide) (by decide) ⟨by omega, by omega⟩
          rw [if_neg g, if_neg g, if_pos rfl, c1, bnd_some]
          exact ⟨fun v z => (by cases z), fun k p z => by cases z; exact ⟨_, m4, rfl, nr, c2, FR_trans F3' c3⟩⟩
      · obtain ⟨m2, b1, b2, b3⟩ := number_bad (lo := lo) (hi := hi) tr.2.1 hd (by omega) (by omega) 4 xLF (v := 0) T a2.2.2.1 (by rw [a3]; omega) (by omega) (by rw [xLF_eq]; omega)
        rw [if_neg d, b1]
        exact ⟨fun v z => (by cases z), fun k p z => by cases z; exact ⟨0, m2, rfl, by omega, b2, FR_trans a4 b3⟩⟩
  · rw [if_neg l, if_pos rfl]
    exact hno (fun z => l (tkd_2.mp z).1)
theorem r_number_B {lo hi k p : Int} (F : RB m k p) : r_number lo hi m = some (0, m) := by
  unfold r_number
  rw [if_neg (by rw [F.2.1]; exact F.1)]
end NUM
