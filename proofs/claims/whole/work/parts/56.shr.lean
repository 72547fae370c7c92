/-! share -/
theorem ban_rng0 : ∀ x : Nat, x < 64 → ∀ y : Nat, y < 64 → 0 ≤ ban (x : Int) (y : Int) ∧ ban (x : Int) (y : Int) < 64 := by decide +kernel
theorem ban_rng {x y : Int} (h1 : 0 ≤ x) (h2 : x < 64) (h3 : 0 ≤ y) (h4 : y < 64) : 0 ≤ ban x y ∧ ban x y < 64 := by
  obtain ⟨a, ha, rfl⟩ := nat2 (n := 64) h1 h2
  obtain ⟨b, hb, rfl⟩ := nat2 (n := 64) h3 h4
  exact ban_rng0 a ha b hb
/-- the others, if there was only one -/
def oth (x q : Int) : Int := if bc q = 1 then ban x (bxo q (-1)) else x
theorem oth_rng {x q : Int} (h1 : 0 ≤ x) (h2 : x < 64) (h3 : 0 ≤ q) (h4 : q < 64) : 0 ≤ oth x q ∧ oth x q < 64 := by
  unfold oth
  split
  · exact ban_not h1 h2 h3 h4
  · exact ⟨h1, h2⟩
theorem oth_r0 : ∀ x : Nat, x < 64 → ∀ q : Nat, q < 64 → (if bc (q : Int) ≤ 1 then ban (x : Int) (bxo (q : Int) (-1)) else (x : Int)) = oth x q := by
  unfold oth
  decide +kernel
theorem r_otherThan_ok {x q : Int} {m : xm} (h1 : 0 ≤ x) (h2 : x < 64) (h3 : 0 ≤ q) (h4 : q < 64) : r_otherThan x q m = some (oth x q, m) := by
  unfold r_otherThan
  have b := bc_rng (j := q)
  rw [r_bits_ok h3 h4, bnd_some, w32_id (x := bc q) (by omega) (by omega)]
  obtain ⟨a, ha, rfl⟩ := nat2 (n := 64) h1 h2
  obtain ⟨c, hc, rfl⟩ := nat2 (n := 64) h3 h4
  rw [← oth_r0 a ha c hc]
  split <;> rfl
/-- r notes are left, q could have played the last one: can it be shared by X -/
def shs (G : hv) (N : Int → Int) (len X : Int) : Nat → Int → Bool
  | 0, _ => true
  | r + 1, q => if N (len - ((r + 1 : Nat) : Int)) = 6 then shs G N len X r 0 else if oth (ban (po G (N (len - ((r + 1 : Nat) : Int)))) X) q = 0 then false else shs G N len X r (oth (ban (po G (N (len - ((r + 1 : Nat) : Int)))) X) q)
theorem cShared_loop {m : xm} {h : Nat} {G : hv} (p : isH h) (w : wfG G) (c : CH m h G) {N : Int → Int} {len X : Int} (h0 : 0 ≤ len) (h20 : len ≤ 20) (hX0 : 0 ≤ X) (hX1 : X < 64) (hN : ∀ i, 0 ≤ i → i < len → ntk G (N i)) (h16 : ld m 16 1 = len) (h17 : ∀ i, 0 ≤ i → i < len → ld m 17 i = N i) : ∀ (r f : Nat) {q : Int}, (r : Int) ≤ len → r < f → 0 ≤ q → q < 64 → cP_canBeShared_5 h f X q (len - (r : Int)) m = some (if shs G N len X r q = true then 1 else 0, m) := by
  have gN := w.2.1
  intro r
  induction r with
  | zero =>
    intro f q hr hf q0 q1
    obtain ⟨f, rfl⟩ : ∃ f', f = f' + 1 := ⟨f - 1, by omega⟩
    rw [cP_canBeShared_5, h16, w32_id (x := len - ((0 : Nat) : Int)) (by omega) (by omega), if_pos (by omega)]
    rfl
  | succ r ih =>
    intro f q hr hf q0 q1
    obtain ⟨f, rfl⟩ : ∃ f', f = f' + 1 := ⟨f - 1, by omega⟩
    obtain ⟨k, hk⟩ : ∃ k, len - ((r + 1 : Nat) : Int) = k := ⟨_, rfl⟩
    have hnk := hN k (by omega) (by omega)
    have hnr : 0 ≤ N k ∧ N k < 7 := by rcases hnk with z | z <;> omega
    have pg := po_rng w (N k)
    have bg := ban_rng pg.1 pg.2 hX0 hX1
    have og := oth_rng bg.1 bg.2 q0 q1
    have cq := bc_rng (j := q)
    have s44 : cP_canBeShared_44 h (fun v2 v3 v4 m => cP_canBeShared_5 h f v2 v3 v4 m) X k (oth (ban (po G (N k)) X) q) m = some (if shs G N len X (r + 1) q = true then 1 else 0, m) := by
      unfold cP_canBeShared_44 cP_canBeShared_62 cP_canBeShared_79
      rw [shs, hk, cP_noteAt_ok (by omega) (by omega), bnd_some, h17 k (by omega) (by omega), w32_id (x := N k) (by omega) (by omega), cP_noteAt_ok (by omega) (by omega), bnd_some, h17 k (by omega) (by omega), w32_id (x := N k) (by omega) (by omega), xlt_eq, xlt_eq, w32_id (x := oth (ban (po G (N k)) X) q) (by omega) (by omega), show k + 1 = len - (r : Int) by omega]
      by_cases h6 : N k = 6
      · rw [if_pos h6, if_pos h6, if_pos h6]
        exact ih f (by omega) (by omega) (by decide) (by decide)
      · rw [if_neg h6, if_neg h6, if_neg h6]
        by_cases ho : oth (ban (po G (N k)) X) q = 0
        · rw [if_pos ho, if_pos ho]
          rfl
        · rw [if_neg ho, if_neg ho]
          exact ih f (by omega) (by omega) og.1 og.2
    rw [hk, cP_canBeShared_5, h16, w32_id (x := k) (by omega) (by omega), if_neg (by omega), cP_noteAt_ok (by omega) (by omega), bnd_some, h17 k (by omega) (by omega), cH_playersOf_ok p w c hnr.1 hnr.2, bnd_some, xlt_eq, j_bitCount_bc q0 q1, bnd_some, w32_id (x := bc q) (by omega) (by omega), xlt_eq, ← s44]
    unfold oth
    split <;> rfl
theorem rShared_loop {m : xm} {G : hv} (w : wfG G) (r0 : RH m G) {N : Int → Int} {len X : Int} (h0 : 0 ≤ len) (h20 : len ≤ 20) (hX0 : 0 ≤ X) (hX1 : X < 64) (hN : ∀ i, 0 ≤ i → i < len → ntk G (N i)) (h46 : ld m 78 46 = len) (h112 : ∀ i, 0 ≤ i → i < len → ld m 112 i = N i) : ∀ (r f : Nat) {q : Int}, (r : Int) ≤ len → r < f → 0 ≤ q → q < 64 → ((r : Int) = len ∨ N (len - (r : Int) - 1) = 6 → q = 0) → r_isSharedBy_4 f X q (len - (r : Int)) m = some (if shs G N len X r q = true then 1 else 0, m) := by
  have gN := w.2.1
  intro r
  induction r with
  | zero =>
    intro f q hr hf q0 q1 _
    obtain ⟨f, rfl⟩ : ∃ f', f = f' + 1 := ⟨f - 1, by omega⟩
    rw [r_isSharedBy_4, h46, w32_id (x := len - ((0 : Nat) : Int)) (by omega) (by omega), if_pos (by omega)]
    rfl
  | succ r ih =>
    intro f q hr hf q0 q1 hq
    obtain ⟨f, rfl⟩ : ∃ f', f = f' + 1 := ⟨f - 1, by omega⟩
    obtain ⟨k, hk⟩ : ∃ k, len - ((r + 1 : Nat) : Int) = k := ⟨_, rfl⟩
    rw [hk] at hq
    have hnk := hN k (by omega) (by omega)
    have hnr : 0 ≤ N k ∧ N k < 7 := by rcases hnk with z | z <;> omega
    have pg := po_rng w (N k)
    have bg := ban_rng pg.1 pg.2 hX0 hX1
    have og := oth_rng bg.1 bg.2 q0 q1
    have s73 : ∀ x, 0 ≤ x → x < 64 → (N k = 6 → x = 0) → (N k ≠ 6 → x = oth (ban (po G (N k)) X) q) → r_isSharedBy_73 (fun v1 v2 v3 m => r_isSharedBy_4 f v1 v2 v3 m) X k (N k) x m = some (if shs G N len X (r + 1) q = true then 1 else 0, m) := by
      intro x x0 x1 e1 e2
      unfold r_isSharedBy_73 r_isSharedBy_87
      rw [shs, hk, w32_id (x := N k) (by omega) (by omega), w32_id (x := x) (by omega) (by omega), show k + 1 = len - (r : Int) by omega]
      by_cases h6 : N k = 6
      · rw [if_pos h6, if_pos h6, e1 h6]
        exact ih f (by omega) (by omega) (by decide) (by decide) (fun _ => rfl)
      · rw [if_neg h6, if_neg h6, ← e2 h6]
        by_cases ho : x = 0
        · rw [if_pos ho, if_pos ho]
          rfl
        · rw [if_neg ho, if_neg ho]
          refine ih f (by omega) (by omega) x0 x1 (fun z => ?_)
          rw [show len - (r : Int) - 1 = k by omega] at z
          rcases z with z | z
          · omega
          · exact absurd z h6
    rw [hk, r_isSharedBy_4, h46, w32_id (x := k) (by omega) (by omega), if_neg (by omega), ial_in (by omega) (by rw [al112]; omega), h112 k (by omega) (by omega), xlt_eq, w32_id (x := N k) (by omega) (by omega)]
    unfold r_isSharedBy_39
    by_cases h6 : N k = 6
    · rw [if_pos h6, xlt_eq, w32_id (x := N k) (by omega) (by omega), if_pos h6]
      exact s73 0 (by decide) (by decide) (fun _ => rfl) (fun z => absurd h6 z)
    · rw [if_neg h6, r_playersOf_ok w r0 hnr.1 hnr.2, bnd_some, xlt_eq, w32_id (x := N k) (by omega) (by omega), if_neg h6, w32_id (x := k) (by omega) (by omega)]
      have z0 : oth (ban (po G (N k)) X) 0 = ban (po G (N k)) X := by
        unfold oth
        rw [if_neg (by decide)]
      by_cases hk0 : k ≤ 0
      · rw [if_pos hk0]
        have : q = 0 := hq (Or.inl (by omega))
        exact s73 _ bg.1 bg.2 (fun z => absurd z h6) (fun _ => by rw [this, z0])
      · have hnp := hN (k - 1) (by omega) (by omega)
        have hnr2 : 0 ≤ N (k - 1) ∧ N (k - 1) < 7 := by rcases hnp with z | z <;> omega
        rw [if_neg hk0, ial_in (by omega) (by rw [al112]; omega), h112 _ (by omega) (by omega), w32_id (x := N (k - 1)) (by omega) (by omega)]
        by_cases hp6 : N (k - 1) = 6
        · rw [if_pos hp6]
          have : q = 0 := hq (Or.inr hp6)
          exact s73 _ bg.1 bg.2 (fun z => absurd z h6) (fun _ => by rw [this, z0])
        · rw [if_neg hp6, r_otherThan_ok bg.1 bg.2 q0 q1, bnd_some]
          exact s73 _ og.1 og.2 (fun z => absurd z h6) (fun _ => rfl)
/-- the best set below v -/
def bst (P : Int → Bool) (x v : Int) : Prop := (x = -1 ∧ ∀ y, 0 ≤ y → y < v → P y = false) ∨ (0 ≤ x ∧ x < v ∧ P x = true ∧ ∀ y, 0 ≤ y → y < v → P y = true → bc x < bc y ∨ (bc x = bc y ∧ x ≤ y))
theorem bst_uq {P : Int → Bool} {x y v : Int} (h1 : bst P x v) (h2 : bst P y v) : x = y := by
  rcases h1 with ⟨a1, a2⟩ | ⟨a1, a2, a3, a4⟩ <;> rcases h2 with ⟨b1, b2⟩ | ⟨b1, b2, b3, b4⟩
  · omega
  · exact absurd (a2 y b1 b2) (by rw [b3]; decide)
  · exact absurd (b2 x a1 a2) (by rw [a3]; decide)
  · have p1 := a4 y b1 b2 b3
    have p2 := b4 x a1 a2 a3
    omega
theorem bc32_0 : ∀ x : Nat, x < 32 → bc (x : Int) < 6 := by decide +kernel
theorem share_in {m : xm} {h : Nat} (hh : hl m 12 = h) {P : Int → Bool} {B c : Int} (hB0 : 0 ≤ B) (hB1 : B < 32) (hc0 : 0 ≤ c) (hc1 : c < 6) (hP : ∀ x, 0 ≤ x → x ≤ B → cP_canBeShared h x m = some (if P x = true then 1 else 0, m)) {K : Int → Int → xm → xr} : ∀ (r f : Nat), (r : Int) ≤ B + 1 → r < f → (∀ y, 0 ≤ y → y < B + 1 - (r : Int) → bc y = c → P y = false) → (cL_share_42 K f B c (B + 1 - (r : Int)) m = K B (c + 1) m ∧ ∀ y, 0 ≤ y → y ≤ B → bc y = c → P y = false) ∨ ∃ x, cL_share_42 K f B c (B + 1 - (r : Int)) m = some (x, m) ∧ 0 ≤ x ∧ x ≤ B ∧ P x = true ∧ bc x = c ∧ ∀ y, 0 ≤ y → y < x → bc y = c → P y = false := by
  intro r
  induction r with
  | zero =>
    intro f hr hf hi
    obtain ⟨f, rfl⟩ : ∃ f', f = f' + 1 := ⟨f - 1, by omega⟩
    refine Or.inl ⟨?_, fun y z1 z2 z3 => hi y z1 (by omega) z3⟩
    rw [cL_share_42, w32_id (x := B) (by omega) (by omega), w32_id (x := B + 1 - ((0 : Nat) : Int)) (by omega) (by omega), if_pos (by omega)]
    rfl
  | succ r ih =>
    intro f hr hf hi
    obtain ⟨f, rfl⟩ : ∃ f', f = f' + 1 := ⟨f - 1, by omega⟩
    obtain ⟨k, hk⟩ : ∃ k, B + 1 - ((r + 1 : Nat) : Int) = k := ⟨_, rfl⟩
    rw [hk] at hi ⊢
    have bk := bc_rng (j := k)
    have q := ih f (by omega) (by omega)
    have e72 : cL_share_72 K (fun v1 v2 v3 m => cL_share_42 K f v1 v2 v3 m) B c k m = cL_share_42 K f B c (B + 1 - (r : Int)) m := by
      unfold cL_share_72
      rw [show k + 1 = B + 1 - (r : Int) by omega]
    rw [cL_share_42, w32_id (x := B) (by omega) (by omega), w32_id (x := k) (by omega) (by omega), if_neg (by omega), j_bitCount_bc (by omega) (by omega), bnd_some, w32_id (x := bc k) (by omega) (by omega), w32_id (x := c) (by omega) (by omega), e72]
    by_cases hc : bc k = c
    · rw [if_pos hc, hh, hP k (by omega) (by omega), bnd_some]
      by_cases hp : P k = true
      · rw [if_pos hp, if_neg (by decide)]
        exact Or.inr ⟨k, rfl, by omega, by omega, hp, hc, hi⟩
      · rw [if_neg hp, if_pos (by decide), e72]
        refine q (fun y z1 z2 z3 => ?_)
        by_cases e : y = k
        · rw [e]; exact Bool.eq_false_iff.mpr hp
        · exact hi y z1 (by omega) z3
    · rw [if_neg hc]
      refine q (fun y z1 z2 z3 => ?_)
      by_cases e : y = k
      · rw [e] at z3; exact absurd z3 hc
      · exact hi y z1 (by omega) z3
theorem share_out {m : xm} {h : Nat} (hh : hl m 12 = h) {P : Int → Bool} {B : Int} (hB0 : 0 ≤ B) (hB1 : B < 32) (hP : ∀ x, 0 ≤ x → x ≤ B → cP_canBeShared h x m = some (if P x = true then 1 else 0, m)) : ∀ (r f : Nat), r ≤ 6 → r < f → (∀ y, 0 ≤ y → y ≤ B → bc y < 6 - (r : Int) → P y = false) → ∃ x, cL_share_35 f B (6 - (r : Int)) m = some (x, m) ∧ bst P x (B + 1) := by
  intro r
  induction r with
  | zero =>
    intro f hr hf hi
    obtain ⟨f, rfl⟩ : ∃ f', f = f' + 1 := ⟨f - 1, by omega⟩
    rw [cL_share_35, if_pos (by decide)]
    refine ⟨-1, rfl, Or.inl ⟨rfl, fun y z1 z2 => hi y z1 (by omega) ?_⟩⟩
    obtain ⟨a, ha, rfl⟩ := nat2 (n := 32) z1 (by omega)
    exact bc32_0 a ha
  | succ r ih =>
    intro f hr hf hi
    obtain ⟨f, rfl⟩ : ∃ f', f = f' + 1 := ⟨f - 1, by omega⟩
    obtain ⟨k, hk⟩ : ∃ k, (6 : Int) - ((r + 1 : Nat) : Int) = k := ⟨_, rfl⟩
    rw [hk] at hi ⊢
    rw [cL_share_35, w32_id (x := k) (by omega) (by omega), if_neg (by omega)]
    have q := share_in hh hB0 hB1 (c := k) (by omega) (by omega) hP (K := fun v1 v2 m => cL_share_35 f v1 v2 m) (B + 1).toNat xLF (by omega) (by rw [xLF_eq]; omega) (fun y z1 z2 => by omega)
    rw [show B + 1 - ((B + 1).toNat : Int) = 0 by omega] at q
    rcases q with ⟨q1, q2⟩ | ⟨x, q1, q2, q3, q4, q5, q6⟩
    · rw [q1, show k + 1 = 6 - (r : Int) by omega]
      refine ih f (by omega) (by omega) (fun y z1 z2 z3 => ?_)
      by_cases e : bc y = k
      · exact q2 y z1 z2 e
      · exact hi y z1 z2 (by omega)
    · rw [q1]
      refine ⟨x, rfl, Or.inr ⟨q2, by omega, q4, fun y z1 z2 z3 => ?_⟩⟩
      by_cases e : bc y = k
      · by_cases l : y < x
        · rw [q6 y z1 l e] at z3
          exact absurd z3 (by decide)
        · exact Or.inr ⟨by omega, by omega⟩
      · by_cases l : bc y < k
        · rw [hi y z1 (by omega) l] at z3
          exact absurd z3 (by decide)
        · exact Or.inl (by omega)
theorem r_share_loop {m : xm} {G : hv} (w : wfG G) (r0 : RH m G) {P : Int → Bool} {B : Int} (hB : B = bd (nP G)) (hB0 : 0 ≤ B) (hB1 : B < 32) (hP : ∀ x, 0 ≤ x → x ≤ B → r_isSharedBy x m = some (if P x = true then 1 else 0, m)) : ∀ (r f : Nat) {v : Int}, (r : Int) ≤ B + 1 → r < f → bst P v (B + 1 - (r : Int)) → ∃ x, r_share_18 f v (B + 1 - (r : Int)) m = some (x, m) ∧ bst P x (B + 1) := by
  have gP := w.2.2.2.1
  have esh : shl 1 (nP G) = B + 1 := by
    rw [shl1 gP.1 (by omega), hB]
    unfold bd
    omega
  intro r
  induction r with
  | zero =>
    intro f v hr hf hb
    obtain ⟨f, rfl⟩ : ∃ f', f = f' + 1 := ⟨f - 1, by omega⟩
    rw [r_share_18, r_playerMany_ok r0, bnd_some, esh, w32_id (x := B + 1 - ((0 : Nat) : Int)) (by omega) (by omega), if_pos (by omega)]
    rw [show B + 1 - ((0 : Nat) : Int) = B + 1 by omega] at hb
    exact ⟨v, rfl, hb⟩
  | succ r ih =>
    intro f v hr hf hb
    obtain ⟨f, rfl⟩ : ∃ f', f = f' + 1 := ⟨f - 1, by omega⟩
    obtain ⟨k, hk⟩ : ∃ k, B + 1 - ((r + 1 : Nat) : Int) = k := ⟨_, rfl⟩
    rw [hk] at hb ⊢
    have bk := bc_rng (j := k)
    have bv := bc_rng (j := v)
    have hv : v = -1 ∨ (0 ≤ v ∧ v < k) := by
      rcases hb with z | z
      · exact Or.inl z.1
      · exact Or.inr ⟨z.1, z.2.1⟩
    have e57 : ∀ u, r_share_57 (fun v1 v2 m => r_share_18 f v1 v2 m) u k m = r_share_18 f u (B + 1 - (r : Int)) m := fun u => by
      unfold r_share_57
      rw [show k + 1 = B + 1 - (r : Int) by omega]
    have ek : B + 1 - (r : Int) = k + 1 := by omega
    have stay : (P k = true → v ≠ -1 ∧ bc v ≤ bc k) → bst P v (B + 1 - (r : Int)) := by
      intro hp
      rw [ek]
      rcases hb with ⟨b1, b2⟩ | ⟨b1, b2, b3, b4⟩
      · refine Or.inl ⟨b1, fun y z1 z2 => ?_⟩
        by_cases e : y = k
        · rw [e]
          exact Bool.eq_false_iff.mpr (fun z => (hp z).1 b1)
        · exact b2 y z1 (by omega)
      · refine Or.inr ⟨b1, by omega, b3, fun y z1 z2 z3 => ?_⟩
        by_cases e : y = k
        · rw [e] at z3 ⊢
          have := (hp z3).2
          omega
        · exact b4 y z1 (by omega) z3
    have s47 : (v = -1 ∨ bc k < bc v) → ∃ x, r_share_47 (fun v1 v2 m => r_share_18 f v1 v2 m) v k m = some (x, m) ∧ bst P x (B + 1) := by
      intro hc
      unfold r_share_47
      rw [hP k (by omega) (by omega), bnd_some, e57, e57]
      by_cases hp : P k = true
      · rw [if_pos hp, if_neg (by decide)]
        refine ih f (by omega) (by omega) ?_
        rw [ek]
        refine Or.inr ⟨by omega, by omega, hp, fun y z1 z2 z3 => ?_⟩
        by_cases e : y = k
        · rw [e]; omega
        · rcases hb with ⟨b1, b2⟩ | ⟨b1, b2, b3, b4⟩
          · rw [b2 y z1 (by omega)] at z3
            exact absurd z3 (by decide)
          · have := b4 y z1 (by omega) z3
            rcases hc with hc | hc
            · omega
            · omega
      · rw [if_neg hp, if_pos (by decide)]
        exact ih f (by omega) (by omega) (stay (fun z => absurd z hp))
    rw [r_share_18, r_playerMany_ok r0, bnd_some, esh, w32_id (x := k) (by omega) (by omega), if_neg (by omega), w32_id (x := v) (by omega) (by omega)]
    by_cases e : v = -1
    · rw [if_pos e]
      exact s47 (Or.inl e)
    · rw [if_neg e, r_bits_ok (by omega) (by omega), bnd_some, r_bits_ok (by omega) (by omega), bnd_some, w32_id (x := bc k) (by omega) (by omega), w32_id (x := bc v) (by omega) (by omega)]
      by_cases l : bc k < bc v
      · rw [if_pos l]
        exact s47 (Or.inr l)
      · rw [if_neg l, e57]
        exact ih f (by omega) (by omega) (stay (fun _ => ⟨e, by omega⟩))
theorem ok_share : okI cL_share r_share := by
  intro m hi
  obtain ⟨G, H⟩ := hi
  have H0 : IG m G := H
  obtain ⟨⟨w, hD, -, c, M, r, -⟩, S0, P0, T, -, R, HH, JJ, LL, II, E⟩ := H0
  obtain ⟨h, hh⟩ : ∃ h, hl m 12 = h := ⟨_, rfl⟩
  have p := hl_or m 12
  rw [hh] at p c M
  have pr := isH_rng p
  have tk := cP_take_ok p w c T
  have gP := w.2.2.2.1
  have hB := bd_rng gP.1 (by omega)
  have hB32 : bd (nP G) < 32 := by
    obtain ⟨a, ha, e⟩ := nat2 (n := 6) gP.1 (by omega)
    rw [e]
    have : ∀ a : Nat, a < 6 → bd (a : Int) < 32 := by decide
    exact this a ha
  by_cases hp : gp m G
  · obtain ⟨mT, k1, k2, k3, k4, k5⟩ := tk.1 hp
    have h20 := hp.1
    have t2 := T.2.1
    have hhT : hl mT 12 = h := by rw [hl_cg (k2 0 12 (by decide) (by decide) (by decide)), hh]
    have cT : CH mT h G := CH_cg c (fun a k z => ldq (k2 a k (by rcases z with rfl | ⟨z1, z2⟩ | ⟨rfl, z⟩ <;> omega) (by rcases z with rfl | ⟨z1, z2⟩ | ⟨rfl, z⟩ <;> omega) (by rcases z with rfl | ⟨z1, z2⟩ | ⟨rfl, z⟩ <;> omega)))
    have hP : ∀ x, 0 ≤ x → x ≤ bd (nP G) → cP_canBeShared h x mT = some (if shs G (fun i => ld m 2 i) (ld m 1 1) x (ld m 1 1).toNat 0 = true then 1 else 0, mT) := fun x z1 z2 => by
      have q := cShared_loop p w cT (N := fun i => ld m 2 i) (len := ld m 1 1) (X := x) t2 h20 z1 (by omega) hp.2 k4 k5 (ld m 1 1).toNat xLF (q := 0) (by omega) (by rw [xLF_eq]; omega) (by decide) (by decide)
      rw [show ld m 1 1 - ((ld m 1 1).toNat : Int) = 0 by omega] at q
      exact q
    obtain ⟨x, a1, a2⟩ := share_out hhT hB.1 hB32 hP 6 xLF (by omega) (by rw [xLF_eq]; omega) (fun y z1 z2 z3 => by have := bc_rng (j := y); omega)
    have eC : cL_share m = some (x, mT) := by
      unfold cL_share
      rw [hh, k1, bnd_some, if_neg (by decide), hhT, cH_bitsOfAll_ok p cT (by decide) (by decide) gP.1 (show nP G ≤ 6 by omega), bnd_some]
      exact a1
    have frR : ∀ a, 78 ≤ a → mT a = m a := fun a z => by
      funext k
      rw [k2 a k (by omega) (by omega) (by omega)]
    obtain ⟨mD, d1, d2, d3, d4, d5⟩ := (isPiece_both w r T frR).1 hp
    have rD : RH mD G := RH_cg r (fun a k z1 z2 _ => by rw [ldq (d2 a k (by omega) (by omega)), ld_cg (frR a (by omega))])
    have hR : ∀ x, 0 ≤ x → x ≤ bd (nP G) → r_isSharedBy x mD = some (if shs G (fun i => ld m 2 i) (ld m 1 1) x (ld m 1 1).toNat 0 = true then 1 else 0, mD) := fun x z1 z2 => by
      have q := rShared_loop w rD (N := fun i => ld m 2 i) (len := ld m 1 1) (X := x) t2 h20 z1 (by omega) hp.2 d4 d5 (ld m 1 1).toNat xLF (q := 0) (by omega) (by rw [xLF_eq]; omega) (by decide) (by decide) (fun _ => rfl)
      rw [show ld m 1 1 - ((ld m 1 1).toNat : Int) = 0 by omega] at q
      exact q
    obtain ⟨y, b1, b2⟩ := r_share_loop w rD rfl hB.1 hB32 hR (bd (nP G) + 1).toNat xLF (v := -1) (by omega) (by rw [xLF_eq]; omega) (Or.inl ⟨rfl, fun y z1 z2 => by omega⟩)
    rw [show bd (nP G) + 1 - ((bd (nP G) + 1).toNat : Int) = 0 by omega] at b1
    obtain rfl := bst_uq a2 b2
    have eR : r_share mT = some (x, mD) := by
      unfold r_share
      rw [d1, bnd_some, if_neg (by decide)]
      exact b1
    have fr : ∀ a k, ¬ (scr a k ∨ fTP a k ∨ fRF a k) → mD a k = m a k := fun a k z => by
      unfold scr fTP at z
      rw [d2 a k (by omega) (by omega), k2 a k (by omega) (by omega) (by omega)]
    refine ⟨_, mT, _, mD, eC, eR, rfl, ⟨G, IG_TR H fr (TP0 ?_ d3) (RF_cg R (fun a k z => ?_))⟩⟩
    · rw [ldq (d2 1 1 (by decide) (by decide)), k3]
    · unfold fRF at z
      rw [d2 a k (by omega) (by omega), k2 a k (by omega) (by omega) (by omega)]
  · obtain ⟨mT, k1, k2, k3⟩ := tk.2 hp
    have frR : ∀ a, 78 ≤ a → (st mT 47 1 (ld mT 47 1 + 1)) a = m a := fun a z => by
      funext k
      rw [st_at (by omega), k2 a k (by omega) (by omega) (by omega)]
    obtain ⟨mD, d1, d2, d3⟩ := (isPiece_both w r T frR).2 hp
    refine ⟨-1, st mT 47 1 (ld mT 47 1 + 1), -1, st mD 80 1 (ld mD 80 1 + 1), ?_, ?_, rfl, ⟨G, ok_tref H (by decide) (by decide) k2 k3 d2 d3⟩⟩
    · unfold cL_share
      rw [hh, k1, bnd_some, if_pos (by decide), cL_refuse_ok (by decide) (by decide), bnd_some]
    · unfold r_share
      rw [d1, bnd_some, if_pos (by decide), r_refuses_ok (by decide) (by decide), bnd_some]
