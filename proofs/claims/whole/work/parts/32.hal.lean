/-! steps of tests and sums, worked out on a list; what a hall's cells tell -/
def clp (x : Int) : Int := if 1000000 < x then 1000000 else if x < -1000000 then -1000000 else x
def fdv (x y : Int) : Int := if y = 0 then 0 else if 0 < y then x / y else (-x) / (-y)
def tkL (G : hv) (s lk t : Int) : Int := if t = 10000 then 1 else if t = 10001 then bc (jm G s) else if t = 10002 then lk else if t = 10003 then wx G lk else if t = 10004 then wd G s lk else bt (jm G s) lk
def tk1 (G : hv) (s lk t x : Int) : Int := if t = 10010 then 1 - x else if t = 10011 then (if 0 ≤ x ∧ x < nL G then wd G s x else -1) else (if 0 ≤ x ∧ x < 6 then tT G x lk else 0)
def tk2 (t a b : Int) : Int :=
  if t = 10020 then (if 0 < a + b then 1 else 0) else if t = 10021 then (if a + b = 2 then 1 else 0) else if t = 10022 then (if a < b then 1 else 0) else if t = 10023 then (if b < a then 1 else 0) else if t = 10024 then (if a = b then 1 else 0) else
  if t = 10030 then clp (a + b) else if t = 10031 then clp (a - b) else if t = 10032 then clp (a * b) else if t = 10033 then fdv a b else if t = 10034 then (if a < b then a else b) else (if a < b then b else a)
def tks (G : hv) (s lk t : Int) (k : List Int) : List Int :=
  if t < 10000 then t :: k else if t < 10010 then tkL G s lk t :: k else if t < 10020 then (match k with
    | x :: r => tk1 G s lk t x :: r
    | [] => []) else (match k with
    | b :: a :: r => tk2 t a b :: r
    | _ => [])
def evl (G : hv) (s lk : Int) : List Int → List Int → List Int
  | [], k => k
  | t :: ts, k => evl G s lk ts (tks G s lk t k)
theorem evl_app (G : hv) (s lk : Int) : ∀ (a b k : List Int), evl G s lk (a ++ b) k = evl G s lk b (evl G s lk a k)
  | [], _, _ => rfl
  | t :: a, b, k => evl_app G s lk a b (tks G s lk t k)
/-- the kinds of what stands there: true a test's, false a sum's; q: of a question -/
def tyk (q : Bool) (t : Int) (k : List Bool) : Option (List Bool) :=
  if 0 ≤ t ∧ t < 10000 then some (false :: k) else if t = 10000 then some (true :: k) else if t = 10001 then some (false :: k) else
  if 10002 ≤ t ∧ t ≤ 10005 then (if q = true then some (false :: k) else none) else
  if t = 10010 then (match k with
    | true :: r => some (true :: r)
    | _ => none) else
  if t = 10011 ∨ t = 10012 ∧ q = true then (match k with
    | false :: r => some (false :: r)
    | _ => none) else
  if t = 10020 ∨ t = 10021 then (match k with
    | true :: true :: r => some (true :: r)
    | _ => none) else
  if 10022 ≤ t ∧ t ≤ 10024 then (match k with
    | false :: false :: r => some (true :: r)
    | _ => none) else
  if 10030 ≤ t ∧ t ≤ 10035 then (match k with
    | false :: false :: r => some (false :: r)
    | _ => none) else none
def tyl (q : Bool) : List Int → List Bool → Option (List Bool)
  | [], k => some k
  | t :: ts, k => match tyk q t k with
    | some k' => if k'.length ≤ 64 then tyl q ts k' else none
    | none => none
theorem tyl_app (q : Bool) : ∀ (a b : List Int) (k : List Bool), tyl q (a ++ b) k = (tyl q a k).bind (tyl q b)
  | [], _, _ => rfl
  | t :: a, b, k => by
    simp only [List.cons_append, tyl]
    cases tyk q t k with
    | none => rfl
    | some k' =>
      dsimp only
      split
      · exact tyl_app q a b k'
      · rfl
/-- the values are of the kinds -/
def vok1 (b : Bool) (x : Int) : Prop := if b = true then x = 0 ∨ x = 1 else -1000000 ≤ x ∧ x ≤ 1000000
def vok : List Bool → List Int → Prop
  | [], [] => True
  | b :: k, x :: r => vok1 b x ∧ vok k r
  | _, _ => False
theorem vok_len : ∀ {k : List Bool} {r : List Int}, vok k r → k.length = r.length
  | [], [], _ => rfl
  | [], _ :: _, h => by cases h
  | _ :: _, [], h => by cases h
  | _ :: k, _ :: r, h => by
    rw [List.length_cons, List.length_cons, vok_len h.2]
theorem clp_rng (x : Int) : -1000000 ≤ clp x ∧ clp x ≤ 1000000 := by
  unfold clp
  split
  · omega
  · split <;> omega
theorem ediv_rng {x y : Int} (h1 : -1000000 ≤ x) (h2 : x ≤ 1000000) (hy : 0 < y) : -1000000 ≤ x / y ∧ x / y ≤ 1000000 := by
  constructor
  · apply Int.le_ediv_of_mul_le hy
    have : (-1000000) * y ≤ (-1000000) * 1 := Int.mul_le_mul_of_nonpos_left (by omega) (by omega)
    omega
  · apply Int.ediv_le_of_le_mul hy
    have : 1000000 * 1 ≤ 1000000 * y := Int.mul_le_mul_of_nonneg_left (by omega) (by omega)
    omega
theorem fdv_rng {x y : Int} (h1 : -1000000 ≤ x) (h2 : x ≤ 1000000) : -1000000 ≤ fdv x y ∧ fdv x y ≤ 1000000 := by
  unfold fdv
  split
  · omega
  · split
    · exact ediv_rng h1 h2 (by omega)
    · exact ediv_rng (by omega) (by omega) (by omega)
def wfG (G : hv) : Prop := wfS G ∧ (0 ≤ nN G ∧ nN G ≤ 6) ∧ (0 ≤ nD G ∧ nD G ≤ 6) ∧ (0 ≤ nP G ∧ nP G ≤ 5) ∧ (0 ≤ ru G ∧ ru G ≤ 100) ∧
  (∀ l, 0 ≤ l → l < nL G → 0 ≤ G 2 l ∧ G 2 l < G 1 l ∧ -1 ≤ G 3 l ∧ G 3 l < G 1 l) ∧
  (∀ n l, 0 ≤ n → n < 6 → 0 ≤ l → l < 4 → 0 ≤ tT G n l ∧ tT G n l ≤ 4 ∧ (nN G ≤ n ∨ nL G ≤ l → tT G n l = 0)) ∧
  (0 < nN G → 0 < nL G) ∧ (∀ p, 0 ≤ p → p < 5 → 0 ≤ G 5 p ∧ G 5 p < 64)
theorem wf_S {G : hv} (h : wfG G) : wfS G := h.1
theorem bc_rng {j : Int} : 0 ≤ bc j ∧ bc j ≤ 6 := by
  have := bt_01 j 0
  have := bt_01 j 1
  have := bt_01 j 2
  have := bt_01 j 3
  have := bt_01 j 4
  have := bt_01 j 5
  unfold bc
  omega
theorem tkL_rng {G : hv} (h : wfG G) {s lk t : Int} (hl : -1 ≤ lk) (hl2 : lk < 4) : -1 ≤ tkL G s lk t ∧ tkL G s lk t ≤ 6 := by
  have h1 := bc_rng (j := jm G s)
  have h2 := wx_pos h.1 lk
  have h3 := wd_rng h.1 s lk
  have h4 := bt_01 (jm G s) lk
  unfold tkL
  (repeat' split) <;> omega
theorem tk_ok {G : hv} (h : wfG G) {q : Bool} {s lk t : Int} (hl : -1 ≤ lk) (hl2 : lk < 4) (hq : q = true → 0 ≤ lk) {k k' : List Bool} {r : List Int} (hv : vok k r) (ht : tyk q t k = some k') : vok k' (tks G s lk t r) := by
  have hL := tkL_rng h (s := s) (t := t) hl hl2
  unfold tyk at ht
  split at ht
  · next c =>
    cases ht
    unfold tks
    rw [if_pos c.2]
    exact ⟨by unfold vok1; rw [if_neg (by decide)]; omega, hv⟩
  next c1 =>
  split at ht
  · next c =>
    cases ht
    subst c
    exact ⟨Or.inr rfl, hv⟩
  next c2 =>
  split at ht
  · next c =>
    cases ht
    unfold tks
    rw [if_neg (by omega), if_pos (by omega)]
    exact ⟨by unfold vok1; rw [if_neg (by decide)]; omega, hv⟩
  next c3 =>
  split at ht
  · next c =>
    split at ht
    · cases ht
      unfold tks
      rw [if_neg (by omega), if_pos (by omega)]
      exact ⟨by unfold vok1; rw [if_neg (by decide)]; omega, hv⟩
    · cases ht
  next c4 =>
  split at ht
  · next c =>
    subst c
    split at ht
    · next r0 =>
      cases ht
      match r, hv with
      | x :: r, hv =>
        refine ⟨?_, hv.2⟩
        have := hv.1
        unfold vok1 tk1 at *
        rw [if_pos rfl] at *
        rw [if_pos rfl]
        omega
    · cases ht
  next c5 =>
  split at ht
  · next c =>
    split at ht
    · next r0 =>
      cases ht
      match r, hv with
      | x :: r, hv =>
        unfold tks
        rw [if_neg (by omega), if_neg (by omega), if_pos (by omega)]
        refine ⟨?_, hv.2⟩
        have hx := hv.1
        unfold vok1 tk1 at *
        rw [if_neg (by decide)] at *
        rw [if_neg (by omega)]
        split
        · split
          · have := wd_rng h.1 s x
            have := wx_pos h.1 x
            omega
          · omega
        · split
          · next hx2 =>
            rcases c with c | c
            · omega
            · have := h.2.2.2.2.2.2.1 x lk hx2.1 hx2.2 (hq c.2) hl2
              omega
          · omega
    · cases ht
  next c6 =>
  split at ht
  · next c =>
    split at ht
    · next r0 =>
      cases ht
      match r, hv with
      | x :: y :: r, hv =>
        unfold tks
        rw [if_neg (by omega), if_neg (by omega), if_neg (by omega)]
        refine ⟨?_, hv.2.2⟩
        unfold vok1 tk2
        rw [if_pos rfl]
        rcases c with c | c
        · rw [if_pos c]
          split <;> simp
        · rw [if_neg (by omega), if_pos c]
          split <;> simp
    · cases ht
  next c7 =>
  split at ht
  · next c =>
    split at ht
    · next r0 =>
      cases ht
      match r, hv with
      | x :: y :: r, hv =>
        unfold tks
        rw [if_neg (by omega), if_neg (by omega), if_neg (by omega)]
        refine ⟨?_, hv.2.2⟩
        unfold vok1 tk2
        rw [if_pos rfl, if_neg (by omega), if_neg (by omega)]
        rcases (show t = 10022 ∨ t = 10023 ∨ t = 10024 by omega) with e | e | e
        · rw [if_pos e]
          split <;> simp
        · rw [if_neg (by omega), if_pos e]
          split <;> simp
        · rw [if_neg (by omega), if_neg (by omega), if_pos e]
          split <;> simp
    · cases ht
  next c8 =>
  split at ht
  · next c =>
    split at ht
    · next r0 =>
      cases ht
      match r, hv with
      | x :: y :: r, hv =>
        unfold tks
        rw [if_neg (by omega), if_neg (by omega), if_neg (by omega)]
        refine ⟨?_, hv.2.2⟩
        have hx := hv.1
        have hy := hv.2.1
        unfold vok1 at hx hy ⊢
        rw [if_neg (by decide)] at hx hy
        rw [if_neg (by decide)]
        have q1 := clp_rng (y + x)
        have q2 := clp_rng (y - x)
        have q3 := clp_rng (y * x)
        have q4 := fdv_rng (y := x) hy.1 hy.2
        unfold tk2
        rw [if_neg (by omega), if_neg (by omega), if_neg (by omega), if_neg (by omega), if_neg (by omega)]
        (repeat' split) <;> omega
    · cases ht
  · cases ht
theorem tyl_ok {G : hv} (h : wfG G) {q : Bool} {s lk : Int} (hl : -1 ≤ lk) (hl2 : lk < 4) (hq : q = true → 0 ≤ lk) : ∀ (ts : List Int) {k k' : List Bool} {r : List Int}, vok k r → tyl q ts k = some k' → vok k' (evl G s lk ts r)
  | [], _, _, _, hv, ht => by cases ht; exact hv
  | t :: ts, k, k', r, hv, ht => by
    unfold tyl at ht
    split at ht
    · next k1 h1 =>
      split at ht
      · exact tyl_ok h hl hl2 hq ts (tk_ok h hl hl2 hq hv h1) ht
      · cases ht
    · cases ht
