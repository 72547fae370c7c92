/-! names looked up in both -/
def fnl (N : Int → Int) (n x : Int) : Nat → Int
  | 0 => -1
  | r + 1 => if N (n - ((r + 1 : Nat) : Int)) = x then n - ((r + 1 : Nat) : Int) else fnl N n x r
def fnd (G : hv) (t x : Int) : Int := fnl (fun i => G 9 (6 * t + i)) (G 0 t) x (G 0 t).toNat
theorem fnl_rng {N : Int → Int} {n x : Int} : ∀ r : Nat, (r : Int) ≤ n → fnl N n x r = -1 ∨ (n - (r : Int) ≤ fnl N n x r ∧ fnl N n x r < n)
  | 0, _ => Or.inl rfl
  | r + 1, h => by
    unfold fnl
    split
    · exact Or.inr ⟨by omega, by omega⟩
    · rcases fnl_rng (N := N) (n := n) (x := x) r (by omega) with z | z
      · exact Or.inl z
      · exact Or.inr ⟨by omega, by omega⟩
theorem fnd_rng {G : hv} {t x : Int} (h : 0 ≤ G 0 t) : fnd G t x = -1 ∨ (0 ≤ fnd G t x ∧ fnd G t x < G 0 t) := by
  rcases fnl_rng (N := fun i => G 9 (6 * t + i)) (n := G 0 t) (x := x) (G 0 t).toNat (by omega) with z | z
  · exact Or.inl z
  · refine Or.inr ⟨?_, z.2⟩
    unfold fnd
    omega
def kno (G : hv) (x : Int) : Prop := ¬ (fnd G 0 x = -1 ∧ fnd G 1 x = -1 ∧ fnd G 2 x = -1 ∧ fnd G 3 x = -1)
theorem nmL_inj {L M : List Int} (h1 : nmL L) (h2 : nmL M) (h : n32 L = n32 M) : L = M := by
  apply List.ext_getElem?
  intro k
  have a := n32_dig L k h1.2.2
  have b := n32_dig M k h2.2.2
  rw [h, b] at a
  by_cases c : k < L.length
  · have la := h1.2.2 (L.getD k 0) (by rw [List.getD_eq_getElem?_getD, List.getElem?_eq_getElem c]; exact List.getElem_mem c)
    have d : k < M.length := by
      refine Decidable.byContradiction fun z => ?_
      rw [List.getD_eq_getElem?_getD (l := M), List.getElem?_eq_none (by omega)] at a
      rw [← a] at la
      exact absurd la.1 (by decide)
    rw [List.getElem?_eq_getElem c, List.getElem?_eq_getElem d]
    rw [List.getD_eq_getElem?_getD, List.getD_eq_getElem?_getD, List.getElem?_eq_getElem c, List.getElem?_eq_getElem d] at a
    exact congrArg some a.symm
  · have d : ¬ k < M.length := by
      intro z
      have la := h2.2.2 (M.getD k 0) (by rw [List.getD_eq_getElem?_getD, List.getElem?_eq_getElem z]; exact List.getElem_mem z)
      rw [List.getD_eq_getElem?_getD (l := L), List.getElem?_eq_none (by omega)] at a
      rw [a] at la
      exact absurd la.1 (by decide)
    rw [List.getElem?_eq_none (by omega), List.getElem?_eq_none (by omega)]
theorem rv_inj : ∀ {R S : List Int}, okc R → okc S → rv R = rv S → R = S
  | [], [], _, _, _ => rfl
  | [], c :: S, _, h2, h => by
    exfalso
    have hc := h2 c List.mem_cons_self
    have r := rv_rng S (fun x hx => h2 x (List.mem_cons_of_mem _ hx))
    unfold rv at h
    omega
  | c :: R, [], h1, _, h => by
    exfalso
    have hc := h1 c List.mem_cons_self
    have r := rv_rng R (fun x hx => h1 x (List.mem_cons_of_mem _ hx))
    unfold rv at h
    omega
  | c :: R, d :: S, h1, h2, h => by
    have hc := h1 c List.mem_cons_self
    have hd := h2 d List.mem_cons_self
    unfold rv at h
    rw [show c = d by omega, rv_inj (fun x hx => h1 x (List.mem_cons_of_mem _ hx)) (fun x hx => h2 x (List.mem_cons_of_mem _ hx)) (show rv R = rv S by omega)]
theorem n27_inj {L M : List Int} (h1 : nmL L) (h2 : nmL M) (h : n27 0 L = n27 0 M) : L = M := by
  have e : ∀ L : List Int, n27 0 L = rv L.reverse := fun L => by
    have := n27_rv L.reverse
    rw [List.reverse_reverse] at this
    exact this
  rw [e, e] at h
  have := rv_inj (fun x hx => h1.2.2 x (List.mem_reverse.mp hx)) (fun x hx => h2.2.2 x (List.mem_reverse.mp hx)) h
  have := congrArg List.reverse this
  rw [List.reverse_reverse, List.reverse_reverse] at this
  exact this
theorem nmL_rng {L : List Int} (h : nmL L) : (1 ≤ n32 L ∧ n32 L ≤ 1073741823) ∧ (0 ≤ n27 0 L ∧ n27 0 L ≤ 387420488) := by
  have a := n32_rng L h.2.2
  have p := p27 h.2.1
  have e : n27 0 L = rv L.reverse := by
    have := n27_rv L.reverse
    rw [List.reverse_reverse] at this
    exact this
  have b := rv_rng L.reverse (fun x hx => h.2.2 x (List.mem_reverse.mp hx))
  rw [List.length_reverse] at b
  have c : 1 ≤ n32 L := by
    cases L with
    | nil => exact absurd h.1 (by decide)
    | cons x r =>
      have hx := h.2.2 x List.mem_cons_self
      have hr := n32_rng r (fun y hy => h.2.2 y (List.mem_cons_of_mem _ hy))
      unfold n32
      omega
  rw [e]
  omega
/-- the names as numbers -/
def NL (G : hv) : Prop := ∀ t i, 0 ≤ t → t < 4 → 0 ≤ i → i < G 0 t → ∃ L, nmL L ∧ G 9 (6 * t + i) = n32 L
section LOO
variable {G : hv} {m : xm} {h : Nat}
/-- what of a hall the looking up needs -/
def CN (m : xm) (h : Nat) (G : hv) : Prop := (∀ k, 0 ≤ k → k < 4 → ld m (h + 4) k = G 0 k ∧ 0 ≤ G 0 k ∧ G 0 k ≤ 6) ∧ ∀ t i, 0 ≤ t → t < 4 → 0 ≤ i → i < G 0 t → ld m (h + 5) (6 * t + i) = G 9 (6 * t + i)
theorem CH_CN (w : wfG G) (c : CH m h G) : CN m h G := ⟨fun k h1 h2 => ⟨ch_cnt c h1 h2, wf_cnt w k h1 h2⟩, fun t i h1 h2 h3 h4 => ch_nm c h1 h2 h3 h4⟩
theorem CN_cg {m' : xm} (c : CN m h G) (e4 : ∀ k, m' (h + 4) k = m (h + 4) k) (e5 : ∀ k, m' (h + 5) k = m (h + 5) k) : CN m' h G := ⟨fun k h1 h2 => by rw [ldq (e4 k)]; exact c.1 k h1 h2, fun t i h1 h2 h3 h4 => by rw [ldq (e5 _)]; exact c.2 t i h1 h2 h3 h4⟩
theorem named_loop (p : isH h) (c : CN m h G) {t x : Int} (h0 : 0 ≤ t) (h4 : t < 4) (hx : rg x) : ∀ (r f : Nat), (r : Int) ≤ G 0 t → r < f → cH_named_2 h f t x (G 0 t - (r : Int)) m = some (fnl (fun i => G 9 (6 * t + i)) (G 0 t) x r, m) := by
  have a := alnH p
  obtain ⟨c1, c2, c3⟩ := c.1 t h0 h4
  intro r
  induction r with
  | zero =>
    intro f hr hf
    obtain ⟨f, rfl⟩ : ∃ f', f = f' + 1 := ⟨f - 1, by omega⟩
    rw [cH_named_2, cell_in h0 (by omega), bnd_some, w32_ld, c1, w32_id (by omega) (by omega), if_pos (by omega), fnl]
  | succ r ih =>
    intro f hr hf
    obtain ⟨f, rfl⟩ : ∃ f', f = f' + 1 := ⟨f - 1, by omega⟩
    have cn := c.2 t (G 0 t - ((r + 1 : Nat) : Int)) h0 h4 (by omega) (by omega)
    rw [cH_named_2, cell_in h0 (by omega), bnd_some, w32_ld, c1, w32_id (by omega) (by omega), if_neg (by omega), show t * 6 + (G 0 t - ((r + 1 : Nat) : Int)) = 6 * t + (G 0 t - ((r + 1 : Nat) : Int)) by omega, cell_in (by omega) (by omega), bnd_some, w32_ld, cn, w32_rg hx, fnl]
    by_cases e : G 9 (6 * t + (G 0 t - ((r + 1 : Nat) : Int))) = x
    · rw [if_pos e, if_pos e]
    · rw [if_neg e, if_neg e, show G 0 t - ((r + 1 : Nat) : Int) + 1 = G 0 t - (r : Int) by omega, ih f (by omega) (by omega)]
theorem cH_named_ok (p : isH h) (c : CN m h G) {t x : Int} (h0 : 0 ≤ t) (h4 : t < 4) (hx : rg x) : cH_named h t x m = some (fnd G t x, m) := by
  obtain ⟨c1, c2, c3⟩ := c.1 t h0 h4
  have := named_loop p c h0 h4 hx (G 0 t).toNat xLF (by omega) (by rw [xLF_eq]; omega)
  rw [show G 0 t - (((G 0 t).toNat : Nat) : Int) = 0 by omega] at this
  exact this
theorem fnd_w (c : CN m h G) {t x : Int} (h0 : 0 ≤ t) (h4 : t < 4) : w32 (fnd G t x) = fnd G t x := by
  obtain ⟨c1, c2, c3⟩ := c.1 t h0 h4
  have := fnd_rng (x := x) c2
  exact w32_id (by omega) (by omega)
theorem cH_knows_ok (p : isH h) (c : CN m h G) {x : Int} (hx : rg x) : (kno G x → cH_knows h x m = some (1, m)) ∧ (¬ kno G x → cH_knows h x m = some (0, m)) := by
  have e : ∀ f, cH_knows_2 h (f + 5) x 0 m = if fnd G 0 x = -1 then (if fnd G 1 x = -1 then (if fnd G 2 x = -1 then (if fnd G 3 x = -1 then some (0, m) else some (1, m)) else some (1, m)) else some (1, m)) else some (1, m) := by
    intro f
    rw [show f + 5 = (f + 4) + 1 from rfl, cH_knows_2, if_neg (by decide), cH_named_ok p c (by decide) (by decide) hx, bnd_some, fnd_w c (by decide) (by decide)]
    by_cases c0 : fnd G 0 x = -1
    · rw [if_pos c0, if_pos c0, show f + 4 = (f + 3) + 1 from rfl, cH_knows_2, if_neg (by decide), cH_named_ok p c (by decide) (by decide) hx, bnd_some, fnd_w c (by decide) (by decide)]
      simp only [Int.reduceAdd]
      by_cases c1 : fnd G 1 x = -1
      · rw [if_pos c1, if_pos c1, show f + 3 = (f + 2) + 1 from rfl, cH_knows_2, if_neg (by decide), cH_named_ok p c (by decide) (by decide) hx, bnd_some, fnd_w c (by decide) (by decide)]
        simp only [Int.reduceAdd]
        by_cases c2 : fnd G 2 x = -1
        · rw [if_pos c2, if_pos c2, show f + 2 = (f + 1) + 1 from rfl, cH_knows_2, if_neg (by decide), cH_named_ok p c (by decide) (by decide) hx, bnd_some, fnd_w c (by decide) (by decide)]
          simp only [Int.reduceAdd]
          by_cases c3 : fnd G 3 x = -1
          · rw [if_pos c3, if_pos c3, cH_knows_2, if_pos (by decide)]
          · rw [if_neg c3, if_neg c3]
        · rw [if_neg c2, if_neg c2]
      · rw [if_neg c1, if_neg c1]
    · rw [if_neg c0, if_neg c0]
  unfold cH_knows
  rw [show xLF = 19995 + 5 from rfl, e]
  unfold kno
  constructor
  · intro z
    split
    · split
      · split
        · split
          · next a b c d => exact absurd ⟨a, b, c, d⟩ z
          · rfl
        · rfl
      · rfl
    · rfl
  · intro z
    have z : fnd G 0 x = -1 ∧ fnd G 1 x = -1 ∧ fnd G 2 x = -1 ∧ fnd G 3 x = -1 := Decidable.byContradiction z
    rw [if_pos z.1, if_pos z.2.1, if_pos z.2.2.1, if_pos z.2.2.2]
/-! the reference's -/
def RN (m : xm) (G : hv) : Prop := (∀ t, 0 ≤ t → t < 4 → ld m 101 t = G 0 t ∧ 0 ≤ G 0 t ∧ G 0 t ≤ 6) ∧ ∀ t i, 0 ≤ t → t < 4 → 0 ≤ i → i < G 0 t → nmR (ldl m 102 (6 * t + i)) (G 9 (6 * t + i))
theorem RN_cg {m' : xm} (c : RN m G) (e1 : ∀ k, m' 101 k = m 101 k) (e2 : ∀ k, m' 102 k = m 102 k) : RN m' G := ⟨fun t h1 h2 => by rw [ldq (e1 t)]; exact c.1 t h1 h2, fun t i h1 h2 h3 h4 => by rw [ldlq (e2 _)]; exact c.2 t i h1 h2 h3 h4⟩
theorem nameOf_loop (c : RN m G) {t : Int} {L : List Int} (hL : nmL L) (h0 : 0 ≤ t) (h4 : t < 4) : ∀ (r f : Nat), (r : Int) ≤ G 0 t → r < f → r_nameOf_3 f t (n27 0 L) (G 0 t - (r : Int)) m = some (fnl (fun i => G 9 (6 * t + i)) (G 0 t) (n32 L) r, m) := by
  obtain ⟨c1, c2, c3⟩ := c.1 t h0 h4
  have lr := nmL_rng hL
  intro r
  induction r with
  | zero =>
    intro f hr hf
    obtain ⟨f, rfl⟩ : ∃ f', f = f' + 1 := ⟨f - 1, by omega⟩
    rw [r_nameOf_3, ial_in h0 (by rw [al101]; omega), w32_ld, c1, w32_id (by omega) (by omega), if_pos (by omega), fnl]
  | succ r ih =>
    intro f hr hf
    obtain ⟨f, rfl⟩ : ∃ f', f = f' + 1 := ⟨f - 1, by omega⟩
    obtain ⟨M, m1, m2, m3⟩ := c.2 t (G 0 t - ((r + 1 : Nat) : Int)) h0 h4 (by omega) (by omega)
    rw [r_nameOf_3, ial_in h0 (by rw [al101]; omega), w32_ld, c1, w32_id (by omega) (by omega), if_neg (by omega), lal_in (by omega) (by rw [al102]; omega), w64_ldl, m2, w64_id (by omega) (by omega), fnl]
    by_cases e : n27 0 M = n27 0 L
    · have e2 : G 9 (6 * t + (G 0 t - ((r + 1 : Nat) : Int))) = n32 L := by rw [m3, n27_inj m1 hL e]
      rw [if_pos e, if_pos e2]
    · have e2 : ¬ G 9 (6 * t + (G 0 t - ((r + 1 : Nat) : Int))) = n32 L := by
        rw [m3]
        intro z
        exact e (by rw [nmL_inj m1 hL z])
      rw [if_neg e, if_neg e2, show G 0 t - ((r + 1 : Nat) : Int) + 1 = G 0 t - (r : Int) by omega, ih f (by omega) (by omega)]
theorem r_nameOf_ok (c : RN m G) {t : Int} {L : List Int} (hL : nmL L) (h0 : 0 ≤ t) (h4 : t < 4) : r_nameOf t (n27 0 L) m = some (fnd G t (n32 L), m) := by
  obtain ⟨c1, c2, c3⟩ := c.1 t h0 h4
  have := nameOf_loop c hL h0 h4 (G 0 t).toNat xLF (by omega) (by rw [xLF_eq]; omega)
  rw [show G 0 t - (((G 0 t).toNat : Nat) : Int) = 0 by omega] at this
  exact this
/-- a looking up behind a fault -/
theorem r_nameOf_any (c : RN m G) {t x : Int} (h0 : 0 ≤ t) (h4 : t < 4) : ∃ r, r_nameOf t x m = some (r, m) := by
  obtain ⟨c1, c2, c3⟩ := c.1 t h0 h4
  have : ∀ (r f : Nat), (r : Int) ≤ G 0 t → r < f → ∃ z, r_nameOf_3 f t x (G 0 t - (r : Int)) m = some (z, m) := by
    intro r
    induction r with
    | zero =>
      intro f hr hf
      obtain ⟨f, rfl⟩ : ∃ f', f = f' + 1 := ⟨f - 1, by omega⟩
      rw [r_nameOf_3, ial_in h0 (by rw [al101]; omega), w32_ld, c1, w32_id (by omega) (by omega), if_pos (by omega)]
      exact ⟨_, rfl⟩
    | succ r ih =>
      intro f hr hf
      obtain ⟨f, rfl⟩ : ∃ f', f = f' + 1 := ⟨f - 1, by omega⟩
      rw [r_nameOf_3, ial_in h0 (by rw [al101]; omega), w32_ld, c1, w32_id (by omega) (by omega), if_neg (by omega), lal_in (by omega) (by rw [al102]; omega)]
      split
      · exact ⟨_, rfl⟩
      · rw [show G 0 t - ((r + 1 : Nat) : Int) + 1 = G 0 t - (r : Int) by omega]
        exact ih f (by omega) (by omega)
  obtain ⟨z, e⟩ := this (G 0 t).toNat xLF (by omega) (by rw [xLF_eq]; omega)
  rw [show G 0 t - (((G 0 t).toNat : Nat) : Int) = 0 by omega] at e
  exact ⟨z, e⟩
end LOO
