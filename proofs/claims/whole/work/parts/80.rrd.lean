/-! the reference's reading: no fault yet (RS), a fault (RB) -/
def RS (m : xm) (B : Int → Int) (n : Int) (s : Int × Int) : Prop := RT m B n ∧ okT n s ∧ ld m 78 5 = 0 ∧ ld m 78 6 = -1 ∧ (s.1 ≤ ld m 78 2 ∧ ld m 78 2 ≤ n ∧ ren blk B n (ld m 78 2) = tq B n s) ∧ (s.2 = 1 ∧ ld m 78 4 = s.1 ∨ s.2 = 0 ∧ ld m 78 4 < s.1)
def RB (m : xm) (k p : Int) : Prop := k ≠ 0 ∧ ld m 78 5 = k ∧ ld m 78 6 = p
/-- nothing but the reading's own places has changed -/
def FR (m m' : xm) : Prop := ∀ a k, ¬ (a = 78 ∧ (k = 2 ∨ k = 4 ∨ k = 5 ∨ k = 6)) → m' a k = m a k
theorem FR_refl {m : xm} : FR m m := fun _ _ _ => rfl
theorem FR_trans {m1 m2 m3 : xm} (h1 : FR m1 m2) (h2 : FR m2 m3) : FR m1 m3 := fun a k g => by rw [h2 a k g, h1 a k g]
theorem FR_st {m : xm} {k v : Int} (h : k = 2 ∨ k = 4 ∨ k = 5 ∨ k = 6) : FR m (st m 78 k v) := fun a j g => st_at (fun z => g (by rw [z.1, z.2]; exact ⟨rfl, h⟩))
theorem FR_RT {m m' : xm} {B : Int → Int} {n : Int} (f : FR m m') (T : RT m B n) : RT m' B n := RT_cg T (f 78 3 (by omega)) (fun i => f 79 i (by omega))
theorem rne_end {K : Int → Bool} {B : Int → Int} {n : Int} : ∀ r : Nat, rne K B n r = n ∨ K (B (rne K B n r)) = false
  | 0 => Or.inl (by unfold rne; rfl)
  | r + 1 => by
    unfold rne
    split
    · exact rne_end r
    · next c => exact Or.inr (by simpa using c)
theorem ren_idem {K : Int → Bool} {B : Int → Int} {n p : Int} (h : p ≤ n) : ren K B n (ren K B n p) = ren K B n p := ren_stop (ren_rng h).2 (rne_end _)
section RRD
variable {B : Int → Int} {n : Int} {m : xm} {s : Int × Int} {k p : Int}
theorem RT_TB (T : RT m B n) : TB B n := ⟨T.2.1, T.2.2.1, fun i z1 z2 => (T.2.2.2 i z1 z2).2⟩
/-- the reading stands at the token itself -/
theorem RS_at (S : RS m B n s) {m' : xm} (h2 : ld m' 78 2 = tq B n s) (f : ∀ a k, ¬ (a = 78 ∧ k = 2) → m' a k = m a k) : RS m' B n s := by
  obtain ⟨T, ok, f5, f6, f2, f4⟩ := S
  have t := tq_rng (B := B) ok
  refine ⟨RT_cg T (f 78 3 (by omega)) (fun i => f 79 i (by omega)), ok, by rw [ldq (f 78 5 (by omega)), f5], by rw [ldq (f 78 6 (by omega)), f6], ⟨by omega, by omega, ?_⟩, by rw [ldq (f 78 4 (by omega))]; exact f4⟩
  rw [h2]
  exact ren_idem ok.2.1
theorem r_look_S (S : RS m B n s) : ∃ m', r_look m = some (see B n (tq B n s), m') ∧ RS m' B n s ∧ ld m' 78 2 = tq B n s ∧ FR m m' := by
  have S0 := S
  obtain ⟨T, ok, f5, f6, f2, f4⟩ := S
  have o1 := ok.1
  obtain ⟨m', a1, a2, a3⟩ := r_look_ok T (p := ld m 78 2) rfl (by omega) f2.2.1
  rw [f2.2.2] at a1 a2
  exact ⟨m', a1, RS_at S0 a2 a3, a2, fun a j g => a3 a j (by omega)⟩
theorem RS_jnd (S : RS m B n s) (h2 : ld m 78 2 = tq B n s) : ld m 78 2 = ld m 78 4 ↔ jnd B n s := by
  obtain ⟨T, ok, f5, f6, f2, f4⟩ := S
  unfold jnd
  omega
theorem r_fail_S (S : RS m B n s) (hk : k ≠ 0) (hk1 : 0 ≤ k) (hk2 : k ≤ 5) (hp : rg p) : ∃ m', r_fail k p m = some (0, m') ∧ RB m' k p ∧ FR m m' := by
  unfold r_fail
  rw [if_pos S.2.2.1, stf_eq, stf_eq]
  refine ⟨_, rfl, ⟨hk, ?_, ?_⟩, FR_trans (FR_st (by decide)) (FR_st (by decide))⟩
  · rw [ld_st_ne (by decide), ld_st_eq, w32_id (by omega) (by omega)]
  · rw [ld_st_eq, w32_rg hp]
theorem r_fail_B {k' p' : Int} (F : RB m k p) : r_fail k' p' m = some (0, m) := by
  unfold r_fail
  rw [if_neg (by rw [F.2.1]; exact F.1)]
theorem tq_rg (T : TB B n) (h : okT n s) : rg (tq B n s) := by
  have t := tq_rng (B := B) h
  have h1 := h.1
  have h2 := T.2.1
  exact ⟨by omega, by omega⟩
theorem r_failAt (S : RS m B n s) (h2 : ld m 78 2 = tq B n s) (hk : k ≠ 0) (hk1 : 0 ≤ k) (hk2 : k ≤ 5) : ∃ m', r_fail k (ld m 78 2) m = some (0, m') ∧ RB m' k (tq B n s) ∧ FR m m' := by
  rw [h2]
  exact r_fail_S S hk hk1 hk2 (tq_rg (RT_TB S.1) S.2.1)
theorem r_isLetter_ok {c : Int} (h : rg c) : r_isLetter c m = some (if ltr c = true then 1 else 0, m) := by
  unfold r_isLetter ltr
  rw [w32_rg h]
  by_cases c1 : c < 97
  · rw [if_pos c1, if_neg (by simp; omega)]
  · rw [if_neg c1]
    by_cases c2 : 122 < c
    · rw [if_pos c2, if_neg (by simp; omega)]
    · rw [if_neg c2, if_pos (by simp; omega)]
theorem r_isDigit_ok {c : Int} (h : rg c) : r_isDigit c m = some (if dgt c = true then 1 else 0, m) := by
  unfold r_isDigit dgt
  rw [w32_rg h]
  by_cases c1 : c < 48
  · rw [if_pos c1, if_neg (by simp; omega)]
  · rw [if_neg c1]
    by_cases c2 : 57 < c
    · rw [if_pos c2, if_neg (by simp; omega)]
    · rw [if_neg c2, if_pos (by simp; omega)]
theorem see_rg (T : TB B n) (h : okT n s) : rg (see B n (tq B n s)) := by
  have t := tq_rng (B := B) h
  have h1 := h.1
  have z := see_ge T (q := tq B n s) (by omega)
  exact ⟨by omega, by omega⟩
/-- words -/
def rlit (a : Nat) : List Nat := (xsa a).2.2.2
def isD (a : Nat) : Prop := 81 ≤ a ∧ a ≤ 100 ∨ 119 ≤ a ∧ a ≤ 137
theorem isD_0 : ∀ a : Nat, a < 138 → (81 ≤ a ∧ a ≤ 100 ∨ 119 ≤ a) → aln a = ((rlit a).length : Int) ∧ (rlit a).length ≤ 6 ∧ 1 ≤ (rlit a).length ∧ ∀ k : Nat, k < (rlit a).length → (rlit a).getD k 0 < 128 := by decide +kernel
theorem isD_ok {a : Nat} (h : isD a) : aln a = ((rlit a).length : Int) ∧ (rlit a).length ≤ 6 ∧ 1 ≤ (rlit a).length ∧ ∀ k : Nat, k < (rlit a).length → (rlit a).getD k 0 < 128 := isD_0 a (by unfold isD at h; omega) (by unfold isD at h; omega)
theorem isHere_35 {a : Nat} (T : RT m B n) : ∀ (r f : Nat), (r : Int) ≤ n → r < f → r_isHere_35 a f (n - (r : Int)) m = r_isHere_61 a (rne ltr B n r) m := by
  have t3 := T.2.2.1
  intro r
  induction r with
  | zero =>
    intro f hr hf
    obtain ⟨f, rfl⟩ : ∃ f', f = f' + 1 := ⟨f - 1, by omega⟩
    rw [r_isHere_35, T.1, w32_id (by omega) (by omega), if_pos (by omega), rne, show n - ((0 : Nat) : Int) = n by omega]
  | succ r ih =>
    intro f hr hf
    obtain ⟨f, rfl⟩ : ∃ f', f = f' + 1 := ⟨f - 1, by omega⟩
    have bk := T.2.2.2 (n - ((r + 1 : Nat) : Int)) (by omega) (by omega)
    rw [r_isHere_35, T.1, w32_id (by omega) (by omega), if_neg (by omega), ial_in (by omega) (by rw [al79]; omega), bk.1, r_isLetter_ok ⟨by omega, by omega⟩, bnd_some, i01, rne]
    by_cases c : ltr (B (n - ((r + 1 : Nat) : Int))) = true
    · rw [if_pos c, if_pos c, if_neg (by decide), show n - ((r + 1 : Nat) : Int) + 1 = n - (r : Int) by omega, ih f (by omega) (by omega)]
    · rw [if_neg c, if_neg c, if_pos rfl]
theorem isHere_76 {a : Nat} (ha : isD a) {q : Int} (T : RT m B n) (h2 : ld m 78 2 = q) (hq : 0 ≤ q) (hn : q + ((rlit a).length : Int) ≤ n) : ∀ (r f i : Nat), i + r = (rlit a).length → r + 1 < f → r_isHere_76 a f (i : Int) m = some (if wat B (q + i) ((rlit a).drop i) = true then 1 else 0, m) := by
  obtain ⟨d1, d2, d3, d4⟩ := isD_ok ha
  have t3 := T.2.2.1
  intro r
  induction r with
  | zero =>
    intro f i hi hf
    obtain ⟨f, rfl⟩ : ∃ f', f = f' + 1 := ⟨f - 1, by omega⟩
    rw [r_isHere_76, d1, w32_id (by omega) (by omega), if_pos (by omega), List.drop_eq_nil_of_le (by omega), wat, if_pos rfl]
  | succ r ih =>
    intro f i hi hf
    obtain ⟨f, rfl⟩ : ∃ f', f = f' + 1 := ⟨f - 1, by omega⟩
    have lc := d4 i (by omega)
    have bk := T.2.2.2 (q + i) (by omega) (by omega)
    rw [r_isHere_76, h2, ial_in (by omega) (by rw [al79]; omega), bk.1, cld_in (by omega) (by omega), d1, w32_id (x := (i : Int)) (by omega) (by omega), if_neg (by omega)]
    unfold wch
    rw [show (xsa a).2.2.2 = rlit a from rfl, Int.toNat_natCast, w32_id (x := (((rlit a).getD i 0 : Nat) : Int)) (by omega) (by omega), w32_id (x := B (q + i)) (by omega) (by omega), wat_drop (show i < (rlit a).length by omega)]
    by_cases c : B (q + i) = (((rlit a).getD i 0 : Nat) : Int)
    · have e := ih f (i + 1) (by omega) (by omega)
      rw [show ((i + 1 : Nat) : Int) = (i : Int) + 1 by omega] at e
      rw [if_pos c, e, decide_eq_true c, Bool.true_and, show q + ((i : Int) + 1) = q + i + 1 by omega]
    · rw [if_neg c, decide_eq_false c, Bool.false_and, if_neg (by decide)]
theorem Kk1 : Kk 1 = ltr := by
  funext c
  unfold Kk
  rw [if_pos rfl]
theorem Kk2 : Kk 2 = dgt := by
  funext c
  unfold Kk
  rw [if_neg (by decide)]
theorem see_in {q : Int} (h : see B n q ≠ -1) : q < n ∧ see B n q = B q := by
  unfold see at *
  split
  · next c => exact ⟨c, rfl⟩
  · next c => rw [if_neg c] at h; exact absurd rfl h
theorem tto_1 (h : tkd B n s = 1) : tto B n s = ren ltr B n (tq B n s) ∧ tq B n s < n := by
  obtain ⟨l1, l2⟩ := tkd_1.mp h
  have c0 : see B n (tq B n s) ≠ -1 := by intro c; rw [c] at l1; revert l1; decide
  have sn := see_in c0
  have kd : kdo (see B n (tq B n s)) = 1 := by
    unfold kdo
    rw [if_neg c0, if_pos l1]
  unfold tto tke
  rw [kd, if_neg (by decide), if_neg (by decide), Kk1, ren_go sn.1 (by rw [← sn.2]; exact l1)]
  exact ⟨rfl, sn.1⟩
theorem tto_2 (h : tkd B n s = 2) : tto B n s = ren dgt B n (tq B n s) ∧ tq B n s < n ∧ dgt (B (tq B n s)) = true := by
  obtain ⟨l1, l2⟩ := tkd_2.mp h
  have c0 : see B n (tq B n s) ≠ -1 := by intro c; rw [c] at l1; revert l1; decide
  have sn := see_in c0
  have kd : kdo (see B n (tq B n s)) = 2 := by
    unfold kdo
    rw [if_neg c0, if_neg (by intro c; unfold ltr at c; unfold dgt at l1; simp at c l1; omega), if_pos l1]
  unfold tto tke
  rw [kd, if_neg (by decide), if_neg (by decide), Kk2, ren_go sn.1 (by rw [← sn.2]; exact l1)]
  exact ⟨rfl, sn.1, by rw [← sn.2]; exact l1⟩
theorem tto_3 (h : tkd B n s = 3) : tto B n s = tq B n s + 1 ∧ tq B n s < n := by
  obtain ⟨l0, l1, l2⟩ := tkd_3.mp h
  have kd : kdo (see B n (tq B n s)) = 3 := by
    unfold kdo
    rw [if_neg l0, if_neg (by rw [l1]; decide), if_neg (by rw [l2]; decide)]
  unfold tto tke
  rw [kd, if_neg (by decide), if_pos rfl]
  exact ⟨rfl, (see_in l0).1⟩
theorem r_isHere_S {a : Nat} (ha : isD a) (S : RS m B n s) : ∃ m', r_isHere a m = some (if isW B n (rlit a) s = true then 1 else 0, m') ∧ RS m' B n s ∧ ld m' 78 2 = tq B n s ∧ FR m m' := by
  obtain ⟨m', a1, a2, a3, a4⟩ := r_look_S S
  refine ⟨m', ?_, a2, a3, a4⟩
  have T := a2.1
  have ok := S.2.1
  obtain ⟨d1, d2, d3, d4⟩ := isD_ok ha
  have tr := tto_rng (B := B) ok
  have tr2 := tq_rng (B := B) ok
  have o1 := ok.1
  have t3 := T.2.2.1
  unfold r_isHere
  rw [if_pos S.2.2.1, a1, bnd_some, r_isLetter_ok (see_rg (RT_TB T) ok), bnd_some, i01]
  by_cases l : ltr (see B n (tq B n s)) = true
  · rw [if_pos l, if_neg (by decide)]
    by_cases j : jnd B n s
    · rw [if_pos ((RS_jnd a2 a3).mpr j), isW_not (fun z => (tkd_1.mp z).2 j), if_neg (by decide)]
    · rw [if_neg (fun z => j ((RS_jnd a2 a3).mp z))]
      have kd : tkd B n s = 1 := tkd_1.mpr ⟨l, j⟩
      have tt := tto_1 kd
      have e := isHere_35 (a := a) T (n - tq B n s).toNat xLF (by omega) (by rw [xLF_eq]; omega)
      rw [show n - (((n - tq B n s).toNat : Nat) : Int) = tq B n s by omega, show rne ltr B n (n - tq B n s).toNat = tto B n s from tt.1.symm] at e
      rw [a3, e]
      unfold r_isHere_61 isW
      rw [a3, w32_id (by omega) (by omega), d1, decide_eq_true kd, Bool.true_and]
      by_cases c : tto B n s = tq B n s + ((rlit a).length : Int)
      · rw [if_pos (by omega), decide_eq_true c, Bool.true_and]
        have e := isHere_76 ha T a3 (by omega) (by omega) (rlit a).length xLF 0 (by omega) (by rw [xLF_eq]; omega)
        rw [show ((0 : Nat) : Int) = 0 from rfl, Int.add_zero, List.drop_zero] at e
        exact e
      · rw [if_neg (by omega), decide_eq_false c, Bool.false_and, if_neg (by decide)]
  · rw [if_neg l, if_pos rfl, isW_not (fun z => l (tkd_1.mp z).1), if_neg (by decide)]
theorem r_isHere_B {a : Nat} (F : RB m k p) : r_isHere a m = some (0, m) := by
  unfold r_isHere
  rw [if_neg (by rw [F.2.1]; exact F.1)]
theorem isW_len {w : List Nat} (h : isW B n w s = true) : tto B n s = tq B n s + (w.length : Int) := by
  unfold isW at h
  simp only [Bool.and_eq_true, decide_eq_true_eq] at h
  exact h.2.1
/-- behind a word or number -/
theorem RS_nx {m' : xm} (S : RS m B n s) (hk : tkd B n s = 1 ∨ tkd B n s = 2) (h2 : ld m' 78 2 = tto B n s) (h4 : ld m' 78 4 = tto B n s) (f : ∀ a k, ¬ (a = 78 ∧ (k = 2 ∨ k = 4)) → m' a k = m a k) : RS m' B n (nx B n s) := by
  obtain ⟨T, ok, f5, f6, f2, f4⟩ := S
  have tr := tto_rng (B := B) ok
  have tr2 := tq_rng (B := B) ok
  have w1 : wl (tkd B n s) = 1 := by unfold wl; rw [if_pos hk]
  refine ⟨RT_cg T (f 78 3 (by omega)) (fun i => f 79 i (by omega)), okT_nx ok, by rw [ldq (f 78 5 (by omega)), f5], by rw [ldq (f 78 6 (by omega)), f6], ⟨?_, by omega, ?_⟩, Or.inl ⟨w1, h4⟩⟩
  · unfold nx
    dsimp only
    omega
  · rw [h2]
    rfl
theorem r_takes_S {a : Nat} (ha : isD a) (S : RS m B n s) : (isW B n (rlit a) s = true → ∃ m', r_takes a m = some (1, m') ∧ RS m' B n (nx B n s) ∧ FR m m') ∧ (isW B n (rlit a) s = false → ∃ m', r_takes a m = some (0, m') ∧ RS m' B n s ∧ ld m' 78 2 = tq B n s ∧ FR m m') := by
  obtain ⟨m', a1, a2, a3, a4⟩ := r_isHere_S ha S
  obtain ⟨d1, d2, d3, d4⟩ := isD_ok ha
  have ok := S.2.1
  have tr := tto_rng (B := B) ok
  have tr2 := tq_rng (B := B) ok
  have o1 := ok.1
  have t3 := S.1.2.2.1
  unfold r_takes
  rw [a1, bnd_some, i01]
  constructor
  · intro c
    have e := isW_len c
    have e2 : ld (st m' 78 2 (ld m' 78 2 + aln a)) 78 2 = tto B n s := by rw [ld_st_eq, a3, d1, w32_id (by omega) (by omega), e]
    rw [if_pos c, if_neg (by decide), stf_eq, stf_eq, e2]
    refine ⟨_, rfl, RS_nx a2 (Or.inl (isW_kd c)) ?_ ?_ ?_, FR_trans a4 (FR_trans (FR_st (by decide)) (FR_st (by decide)))⟩
    · rw [ld_st_ne (by decide), e2]
    · rw [ld_st_eq, w32_id (by omega) (by omega)]
    · intro a j g
      rw [st_at (by omega), st_at (by omega)]
  · intro c
    rw [if_neg (bF c), if_pos rfl]
    exact ⟨m', rfl, a2, a3, a4⟩
theorem r_takes_B {a : Nat} (F : RB m k p) : r_takes a m = some (0, m) := by
  unfold r_takes
  rw [r_isHere_B F, bnd_some, if_pos (by rfl)]
theorem r_asks_S {a : Nat} (ha : isD a) (S : RS m B n s) : (isW B n (rlit a) s = true → ∃ m', r_asks a m = some (0, m') ∧ RS m' B n (nx B n s) ∧ FR m m') ∧ (isW B n (rlit a) s = false → ∃ m', r_asks a m = some (0, m') ∧ RB m' 1 (tq B n s) ∧ FR m m') := by
  have h := r_takes_S ha S
  unfold r_asks
  rw [if_pos S.2.2.1]
  constructor
  · intro c
    obtain ⟨m', a1, a2, a3⟩ := h.1 c
    rw [a1, bnd_some, if_neg (by decide)]
    exact ⟨m', rfl, a2, a3⟩
  · intro c
    obtain ⟨m', a1, a2, a3, a4⟩ := h.2 c
    obtain ⟨m2, b1, b2, b3⟩ := r_failAt (k := 1) a2 a3 (by decide) (by decide) (by decide)
    rw [a1, bnd_some, if_pos (by rfl), b1, bnd_some]
    exact ⟨m2, rfl, b2, FR_trans a4 b3⟩
theorem r_asks_B {a : Nat} (F : RB m k p) : r_asks a m = some (0, m) := by
  unfold r_asks
  rw [if_neg (by rw [F.2.1]; exact F.1)]
/-- signs -/
def sgn (c : Int) : Prop := 0 ≤ c ∧ c ≤ 255 ∧ ltr c = false ∧ dgt c = false
theorem isG_see {c : Int} (h : sgn c) : isG B n c s = true ↔ see B n (tq B n s) = c := by
  constructor
  · intro z
    exact (isG_kd z).2
  · intro z
    unfold isG
    rw [decide_eq_true z, decide_eq_true (tkd_3.mpr ⟨by rw [z]; have := h.1; omega, by rw [z]; exact h.2.2.1, by rw [z]; exact h.2.2.2⟩)]
    rfl
/-- behind a sign -/
theorem RS_nx3 {m' : xm} (S : RS m B n s) (hk : tkd B n s = 3) (h2 : ld m' 78 2 = tto B n s) (f : ∀ a k, ¬ (a = 78 ∧ k = 2) → m' a k = m a k) : RS m' B n (nx B n s) := by
  obtain ⟨T, ok, f5, f6, f2, f4⟩ := S
  have tr := tto_rng (B := B) ok
  have tr2 := tq_rng (B := B) ok
  have t3 := tto_3 hk
  have w1 : wl (tkd B n s) = 0 := by rw [hk]; rfl
  refine ⟨RT_cg T (f 78 3 (by omega)) (fun i => f 79 i (by omega)), okT_nx ok, by rw [ldq (f 78 5 (by omega)), f5], by rw [ldq (f 78 6 (by omega)), f6], ⟨?_, by omega, ?_⟩, Or.inr ⟨w1, ?_⟩⟩
  · unfold nx
    dsimp only
    omega
  · rw [h2]
    rfl
  · rw [ldq (f 78 4 (by omega))]
    unfold nx
    dsimp only
    omega
theorem RS_sign {m' : xm} (S : RS m B n s) (hk : tkd B n s = 3) (h2 : ld m 78 2 = tq B n s) : RS (st m 78 2 (ld m 78 2 + 1)) B n (nx B n s) := by
  have t3 := tto_3 hk
  have n2 := S.1.2.2.1
  have o1 := S.2.1.1
  have tr2 := tq_rng (B := B) S.2.1
  exact RS_nx3 S hk (by rw [ld_st_eq, h2, w32_id (by omega) (by omega)]; omega) (fun a j g => st_at g)
theorem r_takesSign_S {c : Int} (hc : sgn c) (S : RS m B n s) : (isG B n c s = true → ∃ m', r_takesSign c m = some (1, m') ∧ RS m' B n (nx B n s) ∧ ld m' 78 2 = tq B n s + 1 ∧ FR m m') ∧ (isG B n c s = false → ∃ m', r_takesSign c m = some (0, m') ∧ RS m' B n s ∧ ld m' 78 2 = tq B n s ∧ FR m m') := by
  obtain ⟨m', a1, a2, a3, a4⟩ := r_look_S S
  have g := isG_see (B := B) (n := n) (s := s) hc
  have c1 := hc.1
  have c2 := hc.2.1
  have tr2 := tq_rng (B := B) S.2.1
  have o1 := S.2.1.1
  have t3 := S.1.2.2.1
  unfold r_takesSign
  rw [if_pos S.2.2.1, a1, bnd_some, w32_rg (see_rg (RT_TB S.1) S.2.1), w32_id (x := c) (by omega) (by omega)]
  constructor
  · intro y
    rw [if_pos (g.mp y), stf_eq]
    exact ⟨_, rfl, RS_sign (m' := m') a2 (isG_kd y).1 a3, by rw [ld_st_eq, a3, w32_id (by omega) (by omega)], FR_trans a4 (FR_st (by decide))⟩
  · intro y
    rw [if_neg (fun z => by rw [g.mpr z] at y; cases y)]
    exact ⟨m', rfl, a2, a3, a4⟩
theorem r_takesSign_B {c : Int} (F : RB m k p) : r_takesSign c m = some (0, m) := by
  unfold r_takesSign
  rw [if_neg (by rw [F.2.1]; exact F.1)]
theorem r_asksSign_S {c : Int} (hc : sgn c) (S : RS m B n s) : (isG B n c s = true → ∃ m', r_asksSign c m = some (0, m') ∧ RS m' B n (nx B n s) ∧ FR m m') ∧ (isG B n c s = false → ∃ m', r_asksSign c m = some (0, m') ∧ RB m' 1 (tq B n s) ∧ FR m m') := by
  have h := r_takesSign_S hc S
  unfold r_asksSign
  rw [if_pos S.2.2.1]
  constructor
  · intro c
    obtain ⟨m', a1, a2, a3, a4⟩ := h.1 c
    rw [a1, bnd_some, if_neg (by decide)]
    exact ⟨m', rfl, a2, a4⟩
  · intro c
    obtain ⟨m', a1, a2, a3, a4⟩ := h.2 c
    obtain ⟨m2, b1, b2, b3⟩ := r_failAt (k := 1) a2 a3 (by decide) (by decide) (by decide)
    rw [a1, bnd_some, if_pos (by rfl), b1, bnd_some]
    exact ⟨m2, rfl, b2, FR_trans a4 b3⟩
theorem r_asksSign_B {c : Int} (F : RB m k p) : r_asksSign c m = some (0, m) := by
  unfold r_asksSign
  rw [if_neg (by rw [F.2.1]; exact F.1)]
end RRD
