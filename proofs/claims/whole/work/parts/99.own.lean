/-! names in both -/
def owB (B : Int → Int) (n : Int) (s : Int × Int) : Bool := (List.range 20).any (fun i => isW B n (rlit (81 + i)) s)
theorem owB_t {B : Int → Int} {n : Int} {s : Int × Int} : owB B n s = true ↔ ∃ i, i < 20 ∧ isW B n (rlit (81 + i)) s = true := by
  unfold owB
  rw [List.any_eq_true]
  constructor
  · rintro ⟨i, h1, h2⟩
    exact ⟨i, List.mem_range.mp h1, h2⟩
  · rintro ⟨i, h1, h2⟩
    exact ⟨i, List.mem_range.mpr h1, h2⟩
section OWN
variable {B : Int → Int} {n : Int} {s : Int × Int} {m m0 : xm}
def POW (B : Int → Int) (n : Int) (s : Int × Int) (m0 : xm) (X : xr) : Prop := ∃ m', X = some (if owB B n s = true then 1 else 0, m') ∧ RS m' B n s ∧ ld m' 78 2 = tq B n s ∧ FR m0 m'
theorem own_step {k a : Nat} {Y N : xm → xr} (hk : k < 20) (ha : a = 81 + k) (acc : ∀ i, i < k → isW B n (rlit (81 + i)) s = false) (S : RS m B n s) (F : FR m0 m) (yes : ∀ m', Y m' = some (1, m')) (no : ∀ m', RS m' B n s → ld m' 78 2 = tq B n s → FR m0 m' → (∀ i, i < k + 1 → isW B n (rlit (81 + i)) s = false) → POW B n s m0 (N m')) : POW B n s m0 (bnd (r_isHere a m) fun r m' => if w32 r = 0 then N m' else Y m') := by
  subst ha
  obtain ⟨m', a1, a2, a3, a4⟩ := r_isHere_S (a := 81 + k) (Or.inl ⟨by omega, by omega⟩) S
  rw [a1, bnd_some, i01]
  by_cases c : isW B n (rlit (81 + k)) s = true
  · rw [if_pos c, if_neg (by decide), yes]
    exact ⟨m', by rw [if_pos (owB_t.mpr ⟨k, hk, c⟩)], a2, a3, FR_trans F a4⟩
  · rw [if_neg c, if_pos rfl]
    refine no m' a2 a3 (FR_trans F a4) (fun i hi => ?_)
    by_cases d : i = k
    · rw [d]; simpa using c
    · exact acc i (by omega)
theorem r_isOwnHere_S (S : RS m B n s) : POW B n s m (r_isOwnHere m) := by
  unfold r_isOwnHere
  refine own_step (k := 0) (by decide) rfl (fun i hi => absurd hi (Nat.not_lt_zero i)) S FR_refl (fun m' => rfl) (fun m1 S1 A1 F1 acc1 => ?_)
  refine own_step (k := 1) (by decide) rfl acc1 S1 F1 (fun m' => rfl) (fun m2 S2 A2 F2 acc2 => ?_)
  refine own_step (k := 2) (by decide) rfl acc2 S2 F2 (fun m' => rfl) (fun m3 S3 A3 F3 acc3 => ?_)
  refine own_step (k := 3) (by decide) rfl acc3 S3 F3 (fun m' => rfl) (fun m4 S4 A4 F4 acc4 => ?_)
  refine own_step (k := 4) (by decide) rfl acc4 S4 F4 (fun m' => rfl) (fun m5 S5 A5 F5 acc5 => ?_)
  refine own_step (k := 5) (by decide) rfl acc5 S5 F5 (fun m' => rfl) (fun m6 S6 A6 F6 acc6 => ?_)
  unfold r_isOwnHere_71
  rw [xlt_eq, if_pos (show w32 0 = 0 by rfl)]
  refine own_step (k := 6) (by decide) rfl acc6 S6 F6 (fun m' => rfl) (fun m7 S7 A7 F7 acc7 => ?_)
  refine own_step (k := 7) (by decide) rfl acc7 S7 F7 (fun m' => rfl) (fun m8 S8 A8 F8 acc8 => ?_)
  refine own_step (k := 8) (by decide) rfl acc8 S8 F8 (fun m' => rfl) (fun m9 S9 A9 F9 acc9 => ?_)
  refine own_step (k := 9) (by decide) rfl acc9 S9 F9 (fun m' => rfl) (fun m10 S10 A10 F10 acc10 => ?_)
  refine own_step (k := 10) (by decide) rfl acc10 S10 F10 (fun m' => rfl) (fun m11 S11 A11 F11 acc11 => ?_)
  refine own_step (k := 11) (by decide) rfl acc11 S11 F11 (fun m' => rfl) (fun m12 S12 A12 F12 acc12 => ?_)
  unfold r_isOwnHere_147
  rw [xlt_eq, if_pos (show w32 0 = 0 by rfl)]
  refine own_step (k := 12) (by decide) rfl acc12 S12 F12 (fun m' => rfl) (fun m13 S13 A13 F13 acc13 => ?_)
  refine own_step (k := 13) (by decide) rfl acc13 S13 F13 (fun m' => rfl) (fun m14 S14 A14 F14 acc14 => ?_)
  refine own_step (k := 14) (by decide) rfl acc14 S14 F14 (fun m' => rfl) (fun m15 S15 A15 F15 acc15 => ?_)
  refine own_step (k := 15) (by decide) rfl acc15 S15 F15 (fun m' => rfl) (fun m16 S16 A16 F16 acc16 => ?_)
  refine own_step (k := 16) (by decide) rfl acc16 S16 F16 (fun m' => rfl) (fun m17 S17 A17 F17 acc17 => ?_)
  refine own_step (k := 17) (by decide) rfl acc17 S17 F17 (fun m' => rfl) (fun m18 S18 A18 F18 acc18 => ?_)
  unfold r_isOwnHere_223
  rw [xlt_eq, if_pos (show w32 0 = 0 by rfl)]
  refine own_step (k := 18) (by decide) rfl acc18 S18 F18 (fun m' => rfl) (fun m19 S19 A19 F19 acc19 => ?_)
  refine own_step (k := 19) (by decide) rfl acc19 S19 F19 (fun m' => rfl) (fun m20 S20 A20 F20 acc20 => ?_)
  refine ⟨m20, ?_, S20, A20, F20⟩
  rw [if_neg (fun z => by obtain ⟨i, h1, h2⟩ := owB_t.mp z; rw [acc20 i h1] at h2; cases h2)]
  rfl
/-- the program's row of own words: each behind a blank -/
def owt : List (Nat × Nat) := [(0, 0), (5, 1), (11, 2), (14, 3), (19, 4), (24, 5), (30, 6), (35, 7), (41, 8), (48, 9), (54, 10), (59, 11), (64, 12), (70, 13), (77, 14), (80, 15), (84, 16), (88, 17), (92, 18), (96, 19)]
theorem owt_ok : ∀ e ∈ owt, (lit 1).getD e.1 0 = 32 ∧ (lit 1).getD (e.1 + (rlit (81 + e.2)).length + 1) 0 = 32 ∧ e.1 + (rlit (81 + e.2)).length + 1 < 101 ∧ e.2 < 20 ∧ ∀ i, i < (rlit (81 + e.2)).length → (lit 1).getD (e.1 + 1 + i) 0 = (rlit (81 + e.2)).getD i 0 ∧ (rlit (81 + e.2)).getD i 0 ≠ 32 := by decide +kernel
theorem owt_all : ∀ k, k < 100 → (lit 1).getD k 0 = 32 → ∃ e ∈ owt, e.1 = k := by decide +kernel
theorem owt_2 : ∀ j, j < 20 → ∃ e ∈ owt, e.2 = j := by decide +kernel
theorem lit1_len : (lit 1).length = 101 := by decide +kernel
def smt (B : Int → Int) (S : List Nat) : Nat → Int → Nat → Bool
  | 0, _, _ => true
  | r + 1, q, i => decide (B q = ((S.getD i 0 : Nat) : Int)) && smt B S r (q + 1) (i + 1)
theorem smt_iff {S : List Nat} : ∀ (r : Nat) {q : Int} {i : Nat}, smt B S r q i = true ↔ ∀ j, j < r → B (q + (j : Int)) = ((S.getD (i + j) 0 : Nat) : Int)
  | 0, _, _ => ⟨fun _ j h => absurd h (Nat.not_lt_zero j), fun _ => rfl⟩
  | r + 1, q, i => by
    unfold smt
    rw [Bool.and_eq_true, decide_eq_true_eq, smt_iff r]
    constructor
    · rintro ⟨h1, h2⟩ j hj
      cases j with
      | zero => simpa using h1
      | succ j =>
        have := h2 j (by omega)
        rw [show q + ((j + 1 : Nat) : Int) = q + 1 + (j : Int) by omega, show i + (j + 1) = i + 1 + j by omega]
        exact this
    · intro h
      refine ⟨by simpa using h 0 (by omega), fun j hj => ?_⟩
      have := h (j + 1) (by omega)
      rw [show q + ((j + 1 : Nat) : Int) = q + 1 + (j : Int) by omega, show i + (j + 1) = i + 1 + j by omega] at this
      exact this
theorem wat_iff : ∀ {w : List Nat} {q : Int}, wat B q w = true ↔ ∀ j, j < w.length → B (q + (j : Int)) = ((w.getD j 0 : Nat) : Int)
  | [], _ => ⟨fun _ j h => absurd h (Nat.not_lt_zero j), fun _ => rfl⟩
  | c :: w, q => by
    unfold wat
    rw [Bool.and_eq_true, decide_eq_true_eq, wat_iff]
    constructor
    · rintro ⟨h1, h2⟩ j hj
      cases j with
      | zero => simpa using h1
      | succ j =>
        have := h2 j (by rw [List.length_cons] at hj; omega)
        rw [show q + ((j + 1 : Nat) : Int) = q + 1 + (j : Int) by omega, List.getD_cons_succ]
        exact this
    · intro h
      refine ⟨by simpa using h 0 (by rw [List.length_cons]; omega), fun j hj => ?_⟩
      have := h (j + 1) (by rw [List.length_cons]; omega)
      rw [show q + ((j + 1 : Nat) : Int) = q + 1 + (j : Int) by omega, List.getD_cons_succ] at this
      exact this
/-- the word that stands there fits behind the blank at k -/
def mtc (B : Int → Int) (q : Int) (len k : Nat) : Prop := (lit 1).getD k 0 = 32 ∧ (lit 1).getD (k + len + 1) 0 = 32 ∧ smt B (lit 1) len q (k + 1) = true
theorem mtc_own (hk : tkd B n s = 1) {len : Nat} (hl : tto B n s = tq B n s + (len : Int)) (hlet : ∀ j : Nat, j < len → 97 ≤ B (tq B n s + j)) : (∃ k, k + len + 1 < 101 ∧ mtc B (tq B n s) len k) ↔ owB B n s = true := by
  rw [owB_t]
  constructor
  · rintro ⟨k, h1, h2, h3, h4⟩
    rw [smt_iff] at h4
    obtain ⟨e, he, rfl⟩ := owt_all k (by omega) h2
    obtain ⟨o1, o2, o3, o4, o5⟩ := owt_ok e he
    refine ⟨e.2, o4, ?_⟩
    have hlen : len = (rlit (81 + e.2)).length := by
      rcases Nat.lt_trichotomy len (rlit (81 + e.2)).length with z | z | z
      · have := o5 len z
        rw [show e.1 + 1 + len = e.1 + len + 1 by omega] at this
        exact absurd (this.1.symm.trans h3) this.2
      · exact z
      · have a := h4 (rlit (81 + e.2)).length z
        have b := hlet (rlit (81 + e.2)).length z
        rw [show e.1 + 1 + (rlit (81 + e.2)).length = e.1 + (rlit (81 + e.2)).length + 1 by omega, o2] at a
        omega
    unfold isW
    rw [decide_eq_true hk, Bool.true_and, decide_eq_true (by rw [hl, hlen]), Bool.true_and, wat_iff]
    intro j hj
    rw [h4 j (by omega), (o5 j hj).1]
  · rintro ⟨i, h1, h2⟩
    obtain ⟨e, he, rfl⟩ := owt_2 i h1
    obtain ⟨o1, o2, o3, o4, o5⟩ := owt_ok e he
    unfold isW at h2
    simp only [Bool.and_eq_true, decide_eq_true_eq] at h2
    have hlen : len = (rlit (81 + e.2)).length := by
      have := h2.2.1
      omega
    refine ⟨e.1, by omega, o1, by rw [hlen]; exact o2, ?_⟩
    rw [smt_iff]
    intro j hj
    rw [wat_iff.mp h2.2.2 j (by omega), (o5 j (by omega)).1]
theorem own_60 {q : Int} {len k : Nat} {K : Int → Int → xm → xr} (T : CT m B n) (h2 : ld m 3 2 = q) (hq : 0 ≤ q) (hn : q + (len : Int) ≤ n) (hk : k + len + 1 < 101) : ∀ (r f j : Nat), j + r = len → r + 1 < f → cW_isOwnWord_60 K f (len : Int) (k : Int) 1 (j : Int) m = if smt B (lit 1) r (q + j) (k + 1 + j) = true then some (1, m) else K (len : Int) ((k : Int) + 1) m := by
  have t1 := T.1
  have t3 := T.2.2.1
  intro r
  induction r with
  | zero =>
    intro f j hj hf
    obtain ⟨f, rfl⟩ : ∃ f', f = f' + 1 := ⟨f - 1, by omega⟩
    rw [cW_isOwnWord_60, w32_id (by omega) (by omega), w32_id (by omega) (by omega), if_pos (by omega)]
    unfold cW_isOwnWord_110 smt
    rw [if_neg (by decide), if_pos rfl]
  | succ r ih =>
    intro f j hj hf
    obtain ⟨f, rfl⟩ : ∃ f', f = f' + 1 := ⟨f - 1, by omega⟩
    have lc := lit_ch 1 (by decide) (k + 1 + j) (by rw [lit1_len]; omega)
    have bk := T.2.2.2 (q + j) (by omega) (by omega)
    rw [cW_isOwnWord_60, w32_id (x := (len : Int)) (by omega) (by omega), w32_id (x := (j : Int)) (by omega) (by omega), if_neg (by omega), if_neg (by decide)]
    unfold j_chr wlen wchr
    rw [show xlit.getD 1 [] = lit 1 from rfl, lit1_len, w32_id (by omega) (by omega), if_pos (by omega), bnd_some, h2, cT_byteAt_ok (by omega) (by omega) (by omega), bnd_some, bk.1, show ((k : Int) + 1 + (j : Int)).toNat = k + 1 + j by omega, w32_id (x := (((lit 1).getD (k + 1 + j) 0 : Nat) : Int)) (by omega) (by omega), w32_id (x := B (q + j)) (by omega) (by omega)]
    unfold cW_isOwnWord_103
    rw [xlt_eq, xlt_eq, smt]
    by_cases c : (((lit 1).getD (k + 1 + j) 0 : Nat) : Int) = B (q + j)
    · have e := ih f (j + 1) (by omega) (by omega)
      rw [show ((j + 1 : Nat) : Int) = (j : Int) + 1 by omega] at e
      rw [if_pos c]
      dsimp only
      rw [e, decide_eq_true c.symm, Bool.true_and, show q + ((j : Int) + 1) = q + j + 1 by omega, show k + 1 + (j + 1) = k + 1 + j + 1 by omega]
    · obtain ⟨f, rfl⟩ : ∃ f', f = f' + 1 := ⟨f - 1, by omega⟩
      rw [if_neg c]
      dsimp only
      rw [cW_isOwnWord_60, decide_eq_false (fun z => c z.symm), Bool.false_and, if_neg (show ¬ (false = true) by decide)]
      unfold cW_isOwnWord_110
      rw [if_pos (show w32 0 = 0 by rfl), if_pos (show w32 0 = 0 by rfl)]
      split <;> rfl
theorem own_12 {q : Int} {len : Nat} (T : CT m B n) (h2 : ld m 3 2 = q) (hq : 0 ≤ q) (hn : q + (len : Int) ≤ n) : ∀ (r f k : Nat), k + r = 101 → r < f → ((∃ k', k ≤ k' ∧ k' + len + 1 < 101 ∧ mtc B q len k') → cW_isOwnWord_12 f (len : Int) (k : Int) m = some (1, m)) ∧ ((¬ ∃ k', k ≤ k' ∧ k' + len + 1 < 101 ∧ mtc B q len k') → cW_isOwnWord_12 f (len : Int) (k : Int) m = some (0, m)) := by
  have t3 := T.2.2.1
  intro r
  induction r with
  | zero =>
    intro f k hk hf
    obtain ⟨f, rfl⟩ : ∃ f', f = f' + 1 := ⟨f - 1, by omega⟩
    constructor
    · rintro ⟨k', h1, h2, -⟩
      omega
    · intro _
      rw [cW_isOwnWord_12]
      unfold j_len wlen
      rw [bnd_some, show xlit.getD 1 [] = lit 1 from rfl, lit1_len, w32_id (by omega) (by omega), w32_id (by omega) (by omega), if_pos (by omega)]
  | succ r ih =>
    intro f k hk hf
    obtain ⟨f, rfl⟩ : ∃ f', f = f' + 1 := ⟨f - 1, by omega⟩
    by_cases hin : k + len + 1 < 101
    · have h := ih f (k + 1) (by omega) (by omega)
      rw [show ((k + 1 : Nat) : Int) = (k : Int) + 1 by omega] at h
      have l1 := lit_ch 1 (by decide) k (by rw [lit1_len]; omega)
      have l2 := lit_ch 1 (by decide) (k + len + 1) (by rw [lit1_len]; omega)
      have e60 := own_60 (K := fun v1 v2 m => cW_isOwnWord_12 f v1 v2 m) T h2 hq hn hin len xLF 0 (by omega) (by rw [xLF_eq]; omega)
      rw [show ((0 : Nat) : Int) = 0 from rfl, Int.add_zero, Nat.add_zero] at e60
      have e55 : cW_isOwnWord_55 (fun v1 v2 m => cW_isOwnWord_12 f v1 v2 m) (len : Int) (k : Int) m = cW_isOwnWord_12 f (len : Int) ((k : Int) + 1) m := by
        unfold cW_isOwnWord_55 cW_isOwnWord_56
        rw [xlt_eq, xLF_eq, cW_isOwnWord_60]
        unfold cW_isOwnWord_110
        rw [if_pos (show w32 0 = 0 by rfl), if_pos (show w32 0 = 0 by rfl)]
        split <;> rfl
      have e : cW_isOwnWord_12 (f + 1) (len : Int) (k : Int) m = if (lit 1).getD k 0 = 32 ∧ (lit 1).getD (k + len + 1) 0 = 32 ∧ smt B (lit 1) len q (k + 1) = true then some (1, m) else cW_isOwnWord_12 f (len : Int) ((k : Int) + 1) m := by
        rw [cW_isOwnWord_12]
        unfold j_len j_chr wlen wchr
        rw [bnd_some, show xlit.getD 1 [] = lit 1 from rfl, lit1_len, w32_id (x := ((101 : Nat) : Int)) (by omega) (by omega), w32_id (x := (k : Int) + (len : Int) + 1) (by omega) (by omega), if_neg (by omega), w32_id (x := (k : Int)) (by omega) (by omega), if_pos (by omega), bnd_some, Int.toNat_natCast, w32_id (x := (((lit 1).getD k 0 : Nat) : Int)) (by omega) (by omega)]
        by_cases c1 : (lit 1).getD k 0 = 32
        · rw [if_pos (by omega), if_pos (by omega), bnd_some, show ((k : Int) + (len : Int) + 1).toNat = k + len + 1 by omega, w32_id (x := (((lit 1).getD (k + len + 1) 0 : Nat) : Int)) (by omega) (by omega)]
          by_cases c2 : (lit 1).getD (k + len + 1) 0 = 32
          · rw [if_pos (by omega)]
            unfold cW_isOwnWord_56
            rw [xlt_eq, e60]
            by_cases c3 : smt B (lit 1) len q (k + 1) = true
            · rw [if_pos c3, if_pos ⟨c1, c2, c3⟩]
            · rw [if_neg c3, if_neg (fun z => c3 z.2.2)]
          · rw [if_neg (by omega), e55, if_neg (fun z => c2 z.2.1)]
        · rw [if_neg (by omega), e55, if_neg (fun z => c1 z.1)]
      rw [e]
      by_cases c : mtc B q len k
      · rw [if_pos (show (lit 1).getD k 0 = 32 ∧ (lit 1).getD (k + len + 1) 0 = 32 ∧ smt B (lit 1) len q (k + 1) = true from c)]
        exact ⟨fun _ => rfl, fun z => absurd ⟨k, Nat.le_refl _, hin, c⟩ z⟩
      · rw [if_neg (show ¬ ((lit 1).getD k 0 = 32 ∧ (lit 1).getD (k + len + 1) 0 = 32 ∧ smt B (lit 1) len q (k + 1) = true) from c)]
        constructor
        · rintro ⟨k', g1, g2, g3⟩
          refine h.1 ⟨k', ?_, g2, g3⟩
          rcases Nat.lt_or_ge k k' with z | z
          · exact z
          · exact absurd (show mtc B q len k by rw [show k = k' by omega]; exact g3) c
        · intro z
          exact h.2 (fun ⟨k', g1, g2, g3⟩ => z ⟨k', by omega, g2, g3⟩)
    · constructor
      · rintro ⟨k', h1, h2, -⟩
        omega
      · intro _
        rw [cW_isOwnWord_12]
        unfold j_len wlen
        rw [bnd_some, show xlit.getD 1 [] = lit 1 from rfl, lit1_len, w32_id (by omega) (by omega), w32_id (by omega) (by omega), if_pos (by omega)]
/-- the bytes of a word are letters -/
theorem word_ltr (ok : okT n s) (hk : tkd B n s = 1) {i : Int} (h1 : tq B n s ≤ i) (h2 : i < tto B n s) : 97 ≤ B i ∧ B i ≤ 122 := by
  have t := tto_1 hk
  have := ren_all (K := ltr) (B := B) (n := n) (p := tq B n s) (i := i) (tq_rng ok).2 h1 (by rw [← t.1]; exact h2)
  unfold ltr at this
  simp only [Bool.and_eq_true, decide_eq_true_eq] at this
  exact this
theorem cW_isOwnWord_S (S : CS m B n s) (hk : tkd B n s = 1) : cW_isOwnWord m = some (if owB B n s = true then 1 else 0, m) := by
  obtain ⟨T, ok, f4, f5, f1, f2, f3⟩ := S
  have tr := tto_rng (B := B) ok
  have tr2 := tq_rng (B := B) ok
  have o1 := ok.1
  have t3 := T.2.2.1
  obtain ⟨len, hlen⟩ : ∃ len : Nat, tto B n s = tq B n s + (len : Int) := ⟨(tto B n s - tq B n s).toNat, by omega⟩
  have h := own_12 T f2 (by omega) (by omega) 101 xLF 0 (by omega) (by rw [xLF_eq]; omega) (len := len)
  have mo := mtc_own hk hlen (fun j hj => (word_ltr ok hk (by omega) (by omega)).1)
  unfold cW_isOwnWord
  rw [f2, f3, xlt_eq, show tto B n s - tq B n s = (len : Int) by omega]
  by_cases c : owB B n s = true
  · rw [if_pos c]
    obtain ⟨k, k1, k2⟩ := mo.mpr c
    exact h.1 ⟨k, by omega, k1, k2⟩
  · rw [if_neg c]
    exact h.2 (fun ⟨k, _, k1, k2⟩ => c (mo.mp ⟨k, k1, k2⟩))
end OWN
