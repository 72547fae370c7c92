/-! the program's reading: no fault yet (CS), a fault (CF) -/
def CS (m : xm) (B : Int → Int) (n : Int) (s : Int × Int) : Prop := CT m B n ∧ okT n s ∧ ld m 3 4 = 0 ∧ ld m 3 5 = -1 ∧ ld m 3 1 = tkd B n s ∧ ld m 3 2 = tq B n s ∧ ld m 3 3 = tto B n s
def CF (m : xm) (k p : Int) : Prop := k ≠ 0 ∧ ld m 3 4 = k ∧ ld m 3 5 = p ∧ ld m 3 1 = 0
/-- nothing but cell 3 has changed -/
def F3 (m m' : xm) : Prop := ∀ a k, a ≠ 3 → m' a k = m a k
theorem F3_refl {m : xm} : F3 m m := fun _ _ _ => rfl
theorem F3_trans {m1 m2 m3 : xm} (h1 : F3 m1 m2) (h2 : F3 m2 m3) : F3 m1 m3 := fun a k g => by rw [h2 a k g, h1 a k g]
theorem F3_st {m : xm} {k v : Int} : F3 m (st m 3 k v) := fun a j g => st_at (fun z => g z.1)
theorem F3_CT {m m' : xm} {B : Int → Int} {n : Int} (f : F3 m m') (T : CT m B n) : CT m' B n := CT_cg T (f 1 1 (by decide)) (fun i => f 2 i (by decide))
section CRD
variable {B : Int → Int} {n : Int} {m : xm} {s : Int × Int} {k p : Int}
theorem bF {b : Bool} (h : b = false) : ¬ (b = true) := by rw [h]; decide
theorem CT_TB (T : CT m B n) : TB B n := ⟨T.2.1, T.2.2.1, fun i z1 z2 => (T.2.2.2 i z1 z2).2⟩
theorem cW_next_S (S : CS m B n s) : ∃ m', cW_next m = some (0, m') ∧ CS m' B n (nx B n s) ∧ F3 m m' := by
  obtain ⟨T, ok, f4, f5, f1, f2, f3⟩ := S
  have tr := tto_rng (B := B) ok
  have tr2 := tq_rng (B := B) ok
  have o1 := ok.1
  obtain ⟨m', a1, a2, a3, a4, a5⟩ := cW_next_ok T f4 f1 f3 (by omega) tr.2.1
  refine ⟨m', a1, ⟨CT_cg T (a5 1 1 (by decide)) (fun i => a5 2 i (by omega)), okT_nx ok, ?_, ?_, a4, a2, a3⟩, fun a j g => a5 a j (by omega)⟩
  · rw [ldq (a5 3 4 (by decide)), f4]
  · rw [ldq (a5 3 5 (by decide)), f5]
theorem cW_next_F (F : CF m k p) : cW_next m = some (0, m) := by
  unfold cW_next
  rw [if_neg (by rw [F.2.1]; exact F.1)]
theorem cW_fail_S (S : CS m B n s) (hk : k ≠ 0) (hk1 : 0 ≤ k) (hk2 : k ≤ 5) (hp : rg p) : ∃ m', cW_fail k p m = some (0, m') ∧ CF m' k p ∧ F3 m m' := by
  unfold cW_fail
  rw [if_pos S.2.2.1, stf_eq, stf_eq, stf_eq]
  refine ⟨_, rfl, ⟨hk, ?_, ?_, ?_⟩, F3_trans F3_st (F3_trans F3_st F3_st)⟩
  · rw [ld_st_ne (by decide), ld_st_ne (by decide), ld_st_eq, w32_id (by omega) (by omega)]
  · rw [ld_st_ne (by decide), ld_st_eq, w32_rg hp]
  · rw [ld_st_eq]; rfl
theorem cW_fail_F {k' p' : Int} (F : CF m k p) : cW_fail k' p' m = some (0, m) := by
  unfold cW_fail
  rw [if_neg (by rw [F.2.1]; exact F.1)]
theorem cW_failHere_S (S : CS m B n s) (hk : k ≠ 0) (hk1 : 0 ≤ k) (hk2 : k ≤ 5) : ∃ m', cW_failHere k m = some (0, m') ∧ CF m' k (tq B n s) ∧ F3 m m' := by
  have t := tq_rng (B := B) S.2.1
  have n2 := S.1.2.2.1
  have o1 := S.2.1.1
  obtain ⟨m', a1, a2, a3⟩ := cW_fail_S (p := tq B n s) S hk hk1 hk2 ⟨by omega, by omega⟩
  refine ⟨m', ?_, a2, a3⟩
  unfold cW_failHere
  rw [S.2.2.2.2.2.1, a1, bnd_some]
theorem cW_failHere_F {k' : Int} (F : CF m k p) : cW_failHere k' m = some (0, m) := by
  unfold cW_failHere
  rw [cW_fail_F F, bnd_some]
/-- words -/
def lit (j : Nat) : List Nat := xlit.getD j []
theorem lit_ch : ∀ j : Nat, j < 31 → ∀ k : Nat, k < (lit j).length → (lit j).getD k 0 < 128 := by decide +kernel
theorem lit_lng : ∀ j : Nat, j < 31 → (lit j).length < 200 := by decide +kernel
theorem wat_drop {B : Int → Int} {p : Int} {w : List Nat} {i : Nat} (h : i < w.length) : wat B p (w.drop i) = (decide (B p = ((w.getD i 0 : Nat) : Int)) && wat B (p + 1) (w.drop (i + 1))) := by
  rw [List.drop_eq_getElem_cons h, wat, List.getD_eq_getElem?_getD, List.getElem?_eq_getElem h]
  rfl
theorem isWord_0 {j f : Nat} {v3 : Int} : cW_isWord_32 j (f + 1) 0 v3 m = some (0, m) := by
  rw [cW_isWord_32]
  unfold j_len
  rw [bnd_some]
  split
  · rfl
  · rw [if_pos (by rfl)]; rfl
theorem isWord_loop {j : Nat} (hj : j < 31) {q : Int} (T : CT m B n) (h2 : ld m 3 2 = q) (hq : 0 ≤ q) (hn : q + ((lit j).length : Int) ≤ n) : ∀ (r f i : Nat), i + r = (lit j).length → r + 1 < f → cW_isWord_32 j f 1 (i : Int) m = some (if wat B (q + i) ((lit j).drop i) = true then 1 else 0, m) := by
  have ll := lit_lng j hj
  have t3 := T.2.2.1
  have t1 := T.1
  intro r
  induction r with
  | zero =>
    intro f i hi hf
    obtain ⟨f, rfl⟩ : ∃ f', f = f' + 1 := ⟨f - 1, by omega⟩
    rw [cW_isWord_32]
    unfold j_len wlen
    rw [bnd_some, show xlit.getD j [] = lit j from rfl, w32_id (by omega) (by omega), w32_id (by omega) (by omega), if_pos (by omega), List.drop_eq_nil_of_le (by omega), wat, if_pos rfl]
    rfl
  | succ r ih =>
    intro f i hi hf
    obtain ⟨f, rfl⟩ : ∃ f', f = f' + 1 := ⟨f - 1, by omega⟩
    have lc := lit_ch j hj i (by omega)
    have bk := T.2.2.2 (q + i) (by omega) (by omega)
    rw [cW_isWord_32]
    unfold j_len wlen j_chr wlen wchr
    rw [bnd_some, show xlit.getD j [] = lit j from rfl, w32_id (x := ((lit j).length : Int)) (by omega) (by omega), w32_id (x := (i : Int)) (by omega) (by omega), if_neg (by omega), if_neg (by decide), if_pos (by omega), bnd_some, h2, cT_byteAt_ok (by omega) (by omega) (by omega), bnd_some, bk.1, Int.toNat_natCast, w32_id (x := (((lit j).getD i 0 : Nat) : Int)) (by omega) (by omega), w32_id (x := B (q + i)) (by omega) (by omega), wat_drop (show i < (lit j).length by omega)]
    unfold cW_isWord_70
    rw [xlt_eq, xlt_eq]
    by_cases c : (((lit j).getD i 0 : Nat) : Int) = B (q + i)
    · have e := ih f (i + 1) (by omega) (by omega)
      rw [show ((i + 1 : Nat) : Int) = (i : Int) + 1 by omega] at e
      rw [if_pos c]
      dsimp only
      rw [e, decide_eq_true c.symm, Bool.true_and, show q + ((i : Int) + 1) = q + i + 1 by omega]
    · obtain ⟨f, rfl⟩ : ∃ f', f = f' + 1 := ⟨f - 1, by omega⟩
      rw [if_neg c]
      dsimp only
      rw [isWord_0, decide_eq_false (fun z => c z.symm), Bool.false_and, if_neg (by decide)]
theorem cW_isWord_S {j : Nat} (hj : j < 31) (S : CS m B n s) : cW_isWord j m = some (if isW B n (lit j) s = true then 1 else 0, m) := by
  obtain ⟨T, ok, f4, f5, f1, f2, f3⟩ := S
  have ll := lit_lng j hj
  have tr := tto_rng (B := B) ok
  have tr2 := tq_rng (B := B) ok
  have o1 := ok.1
  have t3 := T.2.2.1
  unfold cW_isWord cW_isWord_28 cW_isWord_29 isW
  simp only [xlt_eq]
  rw [f1, f2, f3]
  by_cases c : tkd B n s = 1
  · rw [if_pos c, decide_eq_true c, Bool.true_and]
    unfold j_len wlen
    rw [bnd_some, show xlit.getD j [] = lit j from rfl, w32_id (by omega) (by omega), w32_id (x := ((lit j).length : Int)) (by omega) (by omega)]
    by_cases d : tto B n s = tq B n s + ((lit j).length : Int)
    · rw [if_pos (by omega), decide_eq_true d, Bool.true_and]
      have e := isWord_loop hj T f2 (by omega) (by omega) (lit j).length xLF 0 (by omega) (by rw [xLF_eq]; omega)
      rw [show ((0 : Nat) : Int) = 0 from rfl, Int.add_zero, List.drop_zero] at e
      exact e
    · rw [if_neg (by omega), decide_eq_false d, Bool.false_and, xLF_eq, isWord_0, if_neg (by decide)]
  · rw [if_neg c, decide_eq_false c, Bool.false_and, xLF_eq, isWord_0, if_neg (by decide)]
theorem cW_isWord_F {j : Nat} (F : CF m k p) : cW_isWord j m = some (0, m) := by
  unfold cW_isWord cW_isWord_28 cW_isWord_29
  rw [F.2.2.2, if_neg (by decide), xlt_eq, xLF_eq, isWord_0]
theorem i01 {c : Prop} [Decidable c] : w32 (if c then 1 else 0) = if c then 1 else 0 := by
  split <;> rfl
theorem cW_takeWord_S {j : Nat} (hj : j < 31) (S : CS m B n s) : (isW B n (lit j) s = true → ∃ m', cW_takeWord j m = some (1, m') ∧ CS m' B n (nx B n s) ∧ F3 m m') ∧ (isW B n (lit j) s = false → cW_takeWord j m = some (0, m)) := by
  unfold cW_takeWord
  rw [cW_isWord_S hj S, bnd_some, i01]
  constructor
  · intro c
    obtain ⟨m', a1, a2, a3⟩ := cW_next_S S
    rw [if_pos c, if_neg (by decide), a1, bnd_some]
    exact ⟨m', rfl, a2, a3⟩
  · intro c
    rw [if_neg (bF c), if_pos rfl]
    rfl
theorem cW_takeWord_F {j : Nat} (F : CF m k p) : cW_takeWord j m = some (0, m) := by
  unfold cW_takeWord
  rw [cW_isWord_F F, bnd_some, if_pos (by rfl)]
  rfl
theorem cW_needWord_S {j : Nat} (hj : j < 31) (S : CS m B n s) : (isW B n (lit j) s = true → ∃ m', cW_needWord j m = some (0, m') ∧ CS m' B n (nx B n s) ∧ F3 m m') ∧ (isW B n (lit j) s = false → ∃ m', cW_needWord j m = some (0, m') ∧ CF m' 1 (tq B n s) ∧ F3 m m') := by
  unfold cW_needWord
  rw [cW_isWord_S hj S, bnd_some, i01]
  constructor
  · intro c
    obtain ⟨m', a1, a2, a3⟩ := cW_next_S S
    rw [if_pos c, if_neg (by decide), a1, bnd_some]
    exact ⟨m', rfl, a2, a3⟩
  · intro c
    obtain ⟨m', a1, a2, a3⟩ := cW_failHere_S (k := 1) S (by decide) (by decide) (by decide)
    rw [if_neg (bF c), if_pos rfl, a1, bnd_some]
    exact ⟨m', rfl, a2, a3⟩
theorem cW_needWord_F {j : Nat} (F : CF m k p) : cW_needWord j m = some (0, m) := by
  unfold cW_needWord
  rw [cW_isWord_F F, bnd_some, if_pos (by rfl), cW_failHere_F F, bnd_some]
/-- signs -/
def isG (B : Int → Int) (n c : Int) (s : Int × Int) : Bool := decide (tkd B n s = 3) && decide (see B n (tq B n s) = c)
theorem cW_isSign_S {c : Int} (hc : rg c) (S : CS m B n s) : cW_isSign c m = some (if isG B n c s = true then 1 else 0, m) := by
  obtain ⟨T, ok, f4, f5, f1, f2, f3⟩ := S
  have tr2 := tq_rng (B := B) ok
  have o1 := ok.1
  have t3 := T.2.2.1
  have sr := see_rng T (q := tq B n s) (by omega)
  unfold cW_isSign isG
  rw [f1, f2]
  by_cases d : tkd B n s = 3
  · rw [if_pos d, decide_eq_true d, Bool.true_and, byteAt_see T (by omega) (by omega), bnd_some, w32_id (by omega) (by omega), w32_rg hc]
    by_cases e : see B n (tq B n s) = c
    · rw [if_pos e, decide_eq_true e, if_pos rfl]
    · rw [if_neg e, decide_eq_false e, if_neg (by decide)]
  · rw [if_neg d, decide_eq_false d, Bool.false_and, if_neg (by decide)]
theorem cW_isSign_F {c : Int} (F : CF m k p) : cW_isSign c m = some (0, m) := by
  unfold cW_isSign
  rw [F.2.2.2, if_neg (by decide)]
theorem cW_needSign_S {c : Int} (hc : rg c) (S : CS m B n s) : (isG B n c s = true → ∃ m', cW_needSign c m = some (0, m') ∧ CS m' B n (nx B n s) ∧ F3 m m') ∧ (isG B n c s = false → ∃ m', cW_needSign c m = some (0, m') ∧ CF m' 1 (tq B n s) ∧ F3 m m') := by
  unfold cW_needSign
  rw [cW_isSign_S hc S, bnd_some, i01]
  constructor
  · intro c
    obtain ⟨m', a1, a2, a3⟩ := cW_next_S S
    rw [if_pos c, if_neg (by decide), a1, bnd_some]
    exact ⟨m', rfl, a2, a3⟩
  · intro c
    obtain ⟨m', a1, a2, a3⟩ := cW_failHere_S (k := 1) S (by decide) (by decide) (by decide)
    rw [if_neg (bF c), if_pos rfl, a1, bnd_some]
    exact ⟨m', rfl, a2, a3⟩
theorem cW_needSign_F {c : Int} (F : CF m k p) : cW_needSign c m = some (0, m) := by
  unfold cW_needSign
  rw [cW_isSign_F F, bnd_some, if_pos (by rfl), cW_failHere_F F, bnd_some]
theorem isG_kd {c : Int} (h : isG B n c s = true) : tkd B n s = 3 ∧ see B n (tq B n s) = c := by
  unfold isG at h
  simp only [Bool.and_eq_true, decide_eq_true_eq] at h
  exact h
theorem isG_not {c : Int} (h : tkd B n s ≠ 3) : isG B n c s = false := by
  unfold isG
  rw [decide_eq_false h, Bool.false_and]
theorem isG_ne {c d : Int} (h : isG B n c s = true) (e : c ≠ d) : isG B n d s = false := by
  cases f : isG B n d s with
  | false => rfl
  | true => exact absurd ((isG_kd h).2.symm.trans (isG_kd f).2) e
end CRD
