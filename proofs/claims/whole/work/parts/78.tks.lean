/-! where the reading stands: the end of the last token, whether it was a word or a number; the token there -/
def TB (B : Int → Int) (n : Int) : Prop := 0 ≤ n ∧ n ≤ 1600 ∧ ∀ i, 0 ≤ i → i < n → 0 ≤ B i ∧ B i ≤ 255
def tq (B : Int → Int) (n : Int) (s : Int × Int) : Int := ren blk B n s.1
def tkd (B : Int → Int) (n : Int) (s : Int × Int) : Int := tkk s.2 s.1 (tq B n s) (kdo (see B n (tq B n s)))
def tto (B : Int → Int) (n : Int) (s : Int × Int) : Int := tke B n (tq B n s)
def nx (B : Int → Int) (n : Int) (s : Int × Int) : Int × Int := (tto B n s, wl (tkd B n s))
def okT (n : Int) (s : Int × Int) : Prop := 0 ≤ s.1 ∧ s.1 ≤ n ∧ (s.2 = 0 ∨ s.2 = 1)
section TKS
variable {B : Int → Int} {n : Int} {s : Int × Int}
theorem tq_rng (h : okT n s) : s.1 ≤ tq B n s ∧ tq B n s ≤ n := ren_rng h.2.1
theorem kdo_lt {q : Int} (h : kdo (see B n q) ≠ 0) : q < n := by
  refine Decidable.byContradiction fun z => h ?_
  unfold see kdo
  rw [if_neg z, if_pos rfl]
theorem tkd_kdo (h : tkd B n s ≠ 0) : kdo (see B n (tq B n s)) ≠ 0 := by
  intro z
  unfold tkd tkk at h
  rw [z, if_neg (by omega)] at h
  exact h rfl
theorem tto_rng (h : okT n s) : tq B n s ≤ tto B n s ∧ tto B n s ≤ n ∧ (tkd B n s ≠ 0 → tq B n s < tto B n s) := by
  have t := tq_rng (B := B) h
  unfold tto tke
  by_cases c0 : kdo (see B n (tq B n s)) = 0
  · rw [if_pos c0]
    exact ⟨by omega, by omega, fun z => absurd c0 (tkd_kdo z)⟩
  · have := kdo_lt c0
    rw [if_neg c0]
    by_cases c3 : kdo (see B n (tq B n s)) = 3
    · rw [if_pos c3]
      exact ⟨by omega, by omega, fun _ => by omega⟩
    · rw [if_neg c3]
      have r := ren_rng (K := Kk (kdo (see B n (tq B n s)))) (B := B) (n := n) (p := tq B n s + 1) (by omega)
      exact ⟨by omega, by omega, fun _ => by omega⟩
theorem wl_01 (k : Int) : wl k = 0 ∨ wl k = 1 := by
  unfold wl
  split
  · exact Or.inr rfl
  · exact Or.inl rfl
theorem okT_nx (h : okT n s) : okT n (nx B n s) := by
  have t := tq_rng (B := B) h
  have r := tto_rng (B := B) h
  have h0 := h.1
  exact ⟨by unfold nx; dsimp only; omega, by unfold nx; dsimp only; omega, wl_01 _⟩
theorem nx_gt (h : okT n s) (hk : tkd B n s ≠ 0) : s.1 < (nx B n s).1 := by
  have t := tq_rng (B := B) h
  have r := (tto_rng (B := B) h).2.2 hk
  unfold nx
  dsimp only
  omega
theorem nx_ge (h : okT n s) : s.1 ≤ (nx B n s).1 := by
  have t := tq_rng (B := B) h
  have r := (tto_rng (B := B) h).1
  unfold nx
  dsimp only
  omega
theorem tkd_rng (B : Int → Int) (n : Int) (s : Int × Int) : 0 ≤ tkd B n s ∧ tkd B n s ≤ 4 := by
  have := kdo_rng (see B n (tq B n s))
  unfold tkd tkk
  split <;> omega
/-- joined to a word or number ahead -/
def jnd (B : Int → Int) (n : Int) (s : Int × Int) : Prop := s.2 = 1 ∧ tq B n s = s.1
theorem see_ge (T : TB B n) {q : Int} (h : 0 ≤ q) : -1 ≤ see B n q ∧ see B n q ≤ 255 ∧ (see B n q = -1 ↔ n ≤ q) := by
  unfold see
  split
  · next c => have := T.2.2 q h c; omega
  · omega
theorem tkd_0 (T : TB B n) (h : okT n s) : tkd B n s = 0 ↔ tq B n s = n := by
  have t := tq_rng (B := B) h
  have z := see_ge T (q := tq B n s) (by have := h.1; omega)
  unfold tkd tkk kdo
  constructor
  · intro y
    by_cases c : see B n (tq B n s) = -1
    · omega
    · exfalso
      revert y
      rw [if_neg c]
      split
      · omega
      · split
        · omega
        · split <;> omega
  · intro y
    rw [if_pos (show see B n (tq B n s) = -1 by omega), if_neg (by omega)]
theorem tkd_1 : tkd B n s = 1 ↔ ltr (see B n (tq B n s)) = true ∧ ¬ jnd B n s := by
  unfold tkd tkk jnd
  have z : kdo (see B n (tq B n s)) = 1 ↔ ltr (see B n (tq B n s)) = true := by
    unfold kdo
    constructor
    · intro y
      by_cases c : see B n (tq B n s) = -1
      · rw [if_pos c] at y; omega
      · rw [if_neg c] at y
        by_cases d : ltr (see B n (tq B n s)) = true
        · exact d
        · rw [if_neg d] at y
          split at y <;> omega
    · intro y
      rw [if_neg (by intro c; rw [c] at y; revert y; decide), if_pos y]
  by_cases c : s.2 = 1 ∧ tq B n s = s.1 ∧ (kdo (see B n (tq B n s)) = 1 ∨ kdo (see B n (tq B n s)) = 2)
  · rw [if_pos c]
    exact ⟨fun y => by omega, fun y => absurd ⟨c.1, c.2.1⟩ y.2⟩
  · rw [if_neg c, z]
    exact ⟨fun y => ⟨y, fun w => c ⟨w.1, w.2, Or.inl (z.mpr y)⟩⟩, fun y => y.1⟩
theorem tkd_2 : tkd B n s = 2 ↔ dgt (see B n (tq B n s)) = true ∧ ¬ jnd B n s := by
  unfold tkd tkk jnd
  have z : kdo (see B n (tq B n s)) = 2 ↔ dgt (see B n (tq B n s)) = true := by
    unfold kdo
    constructor
    · intro y
      by_cases c : see B n (tq B n s) = -1
      · rw [if_pos c] at y; omega
      · rw [if_neg c] at y
        by_cases d : ltr (see B n (tq B n s)) = true
        · rw [if_pos d] at y; omega
        · rw [if_neg d] at y
          by_cases d : dgt (see B n (tq B n s)) = true
          · exact d
          · rw [if_neg d] at y; omega
    · intro y
      rw [if_neg (by intro c; rw [c] at y; revert y; decide), if_neg (by intro c; unfold ltr at c; unfold dgt at y; simp at c y; omega), if_pos y]
  by_cases c : s.2 = 1 ∧ tq B n s = s.1 ∧ (kdo (see B n (tq B n s)) = 1 ∨ kdo (see B n (tq B n s)) = 2)
  · rw [if_pos c]
    exact ⟨fun y => by omega, fun y => absurd ⟨c.1, c.2.1⟩ y.2⟩
  · rw [if_neg c, z]
    exact ⟨fun y => ⟨y, fun w => c ⟨w.1, w.2, Or.inr (z.mpr y)⟩⟩, fun y => y.1⟩
theorem tkd_3 : tkd B n s = 3 ↔ see B n (tq B n s) ≠ -1 ∧ ltr (see B n (tq B n s)) = false ∧ dgt (see B n (tq B n s)) = false := by
  unfold tkd tkk kdo
  by_cases c0 : see B n (tq B n s) = -1
  · rw [if_pos c0, if_neg (by omega)]
    exact ⟨fun y => by omega, fun y => absurd c0 y.1⟩
  · rw [if_neg c0]
    by_cases c1 : ltr (see B n (tq B n s)) = true
    · rw [if_pos c1]
      exact ⟨fun y => by split at y <;> omega, fun y => by rw [y.2.1] at c1; cases c1⟩
    · rw [if_neg c1]
      by_cases c2 : dgt (see B n (tq B n s)) = true
      · rw [if_pos c2]
        exact ⟨fun y => by split at y <;> omega, fun y => by rw [y.2.2] at c2; cases c2⟩
      · rw [if_neg c2, if_neg (by omega)]
        exact ⟨fun _ => ⟨c0, by simpa using c1, by simpa using c2⟩, fun _ => rfl⟩
end TKS
/-- a word stands there -/
def wat (B : Int → Int) : Int → List Nat → Bool
  | _, [] => true
  | p, c :: w => decide (B p = (c : Int)) && wat B (p + 1) w
def isW (B : Int → Int) (n : Int) (w : List Nat) (s : Int × Int) : Bool := decide (tkd B n s = 1) && (decide (tto B n s = tq B n s + (w.length : Int)) && wat B (tq B n s) w)
theorem isW_kd {B : Int → Int} {n : Int} {w : List Nat} {s : Int × Int} (h : isW B n w s = true) : tkd B n s = 1 := by
  unfold isW at h
  simp only [Bool.and_eq_true, decide_eq_true_eq] at h
  exact h.1
theorem isW_not {B : Int → Int} {n : Int} {w : List Nat} {s : Int × Int} (h : tkd B n s ≠ 1) : isW B n w s = false := by
  cases e : isW B n w s with
  | false => rfl
  | true => exact absurd (isW_kd e) h
theorem wat_uniq {B : Int → Int} : ∀ {v w : List Nat} {p : Int}, wat B p v = true → wat B p w = true → v.length = w.length → v = w
  | [], [], _, _, _, _ => rfl
  | [], _ :: _, _, _, _, h => by cases h
  | _ :: _, [], _, _, _, h => by cases h
  | c :: v, d :: w, p, h1, h2, h => by
    unfold wat at h1 h2
    simp only [Bool.and_eq_true, decide_eq_true_eq] at h1 h2
    rw [wat_uniq h1.2 h2.2 (by simpa using h), show c = d by omega]
/-- no two unlike words stand there -/
theorem isW_ne {B : Int → Int} {n : Int} {v w : List Nat} {s : Int × Int} (h : isW B n v s = true) (e : v ≠ w) : isW B n w s = false := by
  cases f : isW B n w s with
  | false => rfl
  | true =>
    unfold isW at h f
    simp only [Bool.and_eq_true, decide_eq_true_eq] at h f
    exact absurd (wat_uniq h.2.2 f.2.2 (by omega)) e
