/-! a new name, a known one, in both -/
def knb (G : hv) (x : Int) : Bool := !(decide (fnd G 0 x = -1 ∧ fnd G 1 x = -1 ∧ fnd G 2 x = -1 ∧ fnd G 3 x = -1))
theorem knb_iff {G : hv} {x : Int} : knb G x = true ↔ kno G x := by
  unfold knb kno
  rw [Bool.not_eq_true', decide_eq_false_iff_not]
def nwb (G : hv) (B : Int → Int) (n : Int) (s : Int × Int) (r : Sum (Int × Int) (List Int)) : Sum (Int × Int) (List Int) := match r with
  | .inl e => .inl e
  | .inr L => if knb G (n32 L) = true then .inl (3, tq B n s) else .inr L
def sNew (B : Int → Int) (n : Int) (G : hv) (t : Int) (s : Int × Int) : Sum (Int × Int) (List Int) := if mok t ≤ G 0 t then .inl (5, tq B n s) else nwb G B n (nx B n s) (sNam B n (nx B n s))
def onb (G : hv) (t st : Int) (B : Int → Int) (n : Int) (s : Int × Int) (r : Sum (Int × Int) (List Int)) : Sum (Int × Int) Int := match r with
  | .inl e => .inl e
  | .inr L => if fnd G t (n32 L) = -1 ∨ bt st (fnd G t (n32 L)) = 1 then .inl (3, tq B n s) else .inr (fnd G t (n32 L))
def sOne (B : Int → Int) (n : Int) (G : hv) (t st : Int) (s : Int × Int) : Sum (Int × Int) Int := onb G t st B n s (sNam B n s)
theorem mok_rng {t : Int} (h1 : 0 ≤ t) (h2 : t < 4) : 4 ≤ mok t ∧ mok t ≤ 6 := by
  rcases in4 h1 h2 with rfl | rfl | rfl | rfl <;> decide
section NEW
variable {B : Int → Int} {n : Int} {s : Int × Int} {m : xm} {G : hv} {h : Nat}
theorem sNam_n (ok : okT n s) {L : List Int} (e : sNam B n s = .inr L) : nmL L ∧ tkd B n s = 1 := by
  have := sNam_inr e
  subst this
  exact lts_nmL ok e
theorem sNew_L {t : Int} {L : List Int} (ok : okT n s) (e : sNew B n G t s = .inr L) : nmL L ∧ G 0 t < mok t ∧ tkd B n (nx B n s) = 1 ∧ sNam B n (nx B n s) = .inr L ∧ knb G (n32 L) = false := by
  unfold sNew at e
  split at e
  · cases e
  · next c =>
    unfold nwb at e
    cases es : sNam B n (nx B n s) with
    | inl x => rw [es] at e; cases e
    | inr M =>
      rw [es] at e
      dsimp only at e
      split at e
      · cases e
      · next d =>
        cases e
        have := sNam_n (okT_nx ok) es
        exact ⟨this.1, by omega, this.2, rfl, by simpa using d⟩
theorem cH_isFull_ok (p : isH h) (c : CN m h G) {t : Int} (h0 : 0 ≤ t) (h4 : t < 4) : cH_isFull h t m = some (if mok t ≤ G 0 t then 1 else 0, m) := by
  have a := alnH p
  have mk := mok_rng h0 h4
  obtain ⟨c1, c2, c3⟩ := c.1 t h0 h4
  unfold cH_isFull cL_cellK kal
  rw [cell_in h0 (by omega), bnd_some, w32_id (x := t) (by omega) (by omega), if_neg (by omega), if_neg (by omega), if_pos ⟨h0, h4⟩, bnd_some, w32_ld, c1, w32_id (x := mok t) (by omega) (by omega)]
  by_cases d : mok t ≤ G 0 t
  · rw [if_neg (by omega), if_pos d]
  · rw [if_pos (by omega), if_neg d]
theorem readNew_S (p : isH h) (S : CS m B n s) (c : CN m h G) {t : Int} (h0 : 0 ≤ t) (h4 : t < 4) : (∀ L, sNew B n G t s = .inr L → ∃ m', cR_readNew h t m = some (G 0 t, m') ∧ CS m' B n (nx B n (nx B n s)) ∧ ld m' (h + 5) (6 * t + G 0 t) = n32 L ∧ ld m' (h + 4) t = G 0 t + 1 ∧ ∀ a k, a ≠ 3 → ¬ (a = h + 5 ∧ k = 6 * t + G 0 t) → ¬ (a = h + 4 ∧ k = t) → m' a k = m a k) ∧ (∀ k q, sNew B n G t s = .inl (k, q) → ∃ m', cR_readNew h t m = some (-1, m') ∧ CF m' k q ∧ F3 m m') := by
  have a := alnH p
  have pr := isH_rng p
  have mk := mok_rng h0 h4
  obtain ⟨c1, c2, c3⟩ := c.1 t h0 h4
  have fcn : ∀ {m' : xm}, F3 m m' → CN m' h G := fun f => CN_cg c (fun k => f (h + 4) k (by omega)) (fun k => f (h + 5) k (by omega))
  -- behind a fault
  have T47 : ∀ {m' : xm} {k q x : Int}, CF m' k q → cR_readNew_47 h t x m' = some (-1, m') := by
    intro m' k q x F
    unfold cR_readNew_47 cW_faultKind
    rw [cW_next_F F, bnd_some, bnd_some, w32_ld, if_neg (by rw [F.2.1]; exact F.1)]
  have T30 : ∀ {m' : xm} {k q x : Int}, CF m' k q → F3 m m' → rg x → (bnd (cH_knows h x m') fun r5 m6 => if w32 r5 = 0 then cR_readNew_47 h t x m6 else bnd (cW_failHere 3 m6) fun r7 m8 => cR_readNew_47 h t x m8) = some (-1, m') := by
    intro m' k q x F f hx
    have kk := cH_knows_ok p (fcn f) hx
    by_cases d : knb G x = true
    · rw [kk.1 (knb_iff.mp d), bnd_some, if_neg (by decide), cW_failHere_F F, bnd_some, T47 F]
    · rw [kk.2 (fun z => d (knb_iff.mpr z)), bnd_some, if_pos (by rfl), T47 F]
  unfold cR_readNew cR_readNew_16 sNew
  rw [cH_isFull_ok p c h0 h4, bnd_some, i01]
  by_cases d : mok t ≤ G 0 t
  · obtain ⟨m1, a1, a2, a3⟩ := cW_failHere_S (k := 5) S (by decide) (by decide) (by decide)
    rw [if_pos d, if_pos d, if_neg (by decide), a1, bnd_some, cW_next_F a2, bnd_some, cW_nameHere_F a2, bnd_some, T30 a2 a3 ⟨by decide, by decide⟩]
    exact ⟨fun L z => (by cases z), fun k q z => by cases z; exact ⟨m1, rfl, a2, a3⟩⟩
  · obtain ⟨m1, a1, a2, a3⟩ := cW_next_S S
    rw [if_neg d, if_neg d, if_pos rfl, a1, bnd_some]
    have hN := cW_nameHere_S a2
    cases es : sNam B n (nx B n s) with
    | inl x =>
      obtain ⟨k, q⟩ := x
      obtain ⟨m2, b1, b2, b3⟩ := hN.2 k q es
      rw [b1, bnd_some, T30 b2 (F3_trans a3 b3) ⟨by decide, by decide⟩]
      unfold nwb
      exact ⟨fun L z => (by cases z), fun k q z => by cases z; exact ⟨m2, rfl, b2, F3_trans a3 b3⟩⟩
    | inr L =>
      have nl := (sNam_n a2.2.1 es).1
      have lr := nmL_rng nl
      have kk := cH_knows_ok p (fcn a3) (x := n32 L) ⟨by omega, by omega⟩
      rw [hN.1 L es, bnd_some]
      unfold nwb
      dsimp only
      by_cases g : knb G (n32 L) = true
      · obtain ⟨m2, b1, b2, b3⟩ := cW_failHere_S (k := 3) a2 (by decide) (by decide) (by decide)
        rw [if_pos g, kk.1 (knb_iff.mp g), bnd_some, if_neg (by decide), b1, bnd_some, T47 b2]
        exact ⟨fun L z => (by cases z), fun k q z => by cases z; exact ⟨m2, rfl, b2, F3_trans a3 b3⟩⟩
      · obtain ⟨m2, b1, b2, b3⟩ := cW_next_S a2
        have c2' := fcn (F3_trans a3 b3)
        obtain ⟨c4, c5, c6⟩ := c2'.1 t h0 h4
        rw [if_neg g, kk.2 (fun z => g (knb_iff.mpr z)), bnd_some, if_pos (by rfl)]
        unfold cR_readNew_47 cW_faultKind cH_addOne cH_count
        rw [b1, bnd_some, bnd_some, w32_ld, if_pos b2.2.2.1, cell_in h0 (by omega), bnd_some, bnd_some, cH_isFull_ok p c2' h0 h4, bnd_some, i01, if_neg d, if_pos rfl, c4, show t * 6 + G 0 t = 6 * t + G 0 t by omega, setCell_in (by omega) (by omega), bnd_some, setCell_in h0 (by omega), bnd_some, bnd_some]
        refine ⟨fun M z => ?_, fun k q z => by cases z⟩
        cases z
        refine ⟨_, rfl, CS_cg b2 (fun a k z => by rw [st_at (by omega), st_at (by omega)]), ?_, ?_, ?_⟩
        · rw [ld_st_nc (by omega), ld_st_eq, w32_id (by omega) (by omega)]
        · rw [ld_st_eq, w32_id (by omega) (by omega)]
        · intro a k g1 g2 g3
          rw [st_at g3, st_at g2, F3_trans a3 b3 a k g1]
theorem readNew_F (p : isH h) (c : CN m h G) {t k q : Int} (h0 : 0 ≤ t) (h4 : t < 4) (F : CF m k q) : cR_readNew h t m = some (-1, m) := by
  have kk := cH_knows_ok p c (x := 0) ⟨by decide, by decide⟩
  have T47 : ∀ {x : Int}, cR_readNew_47 h t x m = some (-1, m) := by
    intro x
    unfold cR_readNew_47 cW_faultKind
    rw [cW_next_F F, bnd_some, bnd_some, w32_ld, if_neg (by rw [F.2.1]; exact F.1)]
  have T16 : cR_readNew_16 h t m = some (-1, m) := by
    unfold cR_readNew_16
    rw [cW_next_F F, bnd_some, cW_nameHere_F F, bnd_some]
    by_cases d : knb G 0 = true
    · rw [kk.1 (knb_iff.mp d), bnd_some, if_neg (by decide), cW_failHere_F F, bnd_some, T47]
    · rw [kk.2 (fun z => d (knb_iff.mpr z)), bnd_some, if_pos (by rfl), T47]
  unfold cR_readNew
  rw [cH_isFull_ok p c h0 h4, bnd_some, i01]
  rw [cW_failHere_F F, bnd_some, T16]
  (repeat' split) <;> rfl
theorem readKnown_S (p : isH h) (S : CS m B n s) (c : CN m h G) {t st : Int} (h0 : 0 ≤ t) (h4 : t < 4) (hs0 : 0 ≤ st) (hs1 : st < 64) : (∀ k, sOne B n G t st s = .inr k → ∃ m', cR_readKnown h t st m = some (k, m') ∧ CS m' B n (nx B n s) ∧ F3 m m') ∧ (∀ k q, sOne B n G t st s = .inl (k, q) → ∃ r m', cR_readKnown h t st m = some (r, m') ∧ CF m' k q ∧ F3 m m') := by
  have pr := isH_rng p
  obtain ⟨c1, c2, c3⟩ := c.1 t h0 h4
  have hN := cW_nameHere_S S
  have fcn : ∀ {m' : xm}, F3 m m' → CN m' h G := fun f => CN_cg c (fun k => f (h + 4) k (by omega)) (fun k => f (h + 5) k (by omega))
  unfold cR_readKnown cR_readKnown_30 cR_readKnown_38 sOne
  cases es : sNam B n s with
  | inl x =>
    obtain ⟨k, q⟩ := x
    obtain ⟨m2, b1, b2, b3⟩ := hN.2 k q es
    rw [b1, bnd_some, cH_named_ok p (fcn b3) h0 h4 ⟨by decide, by decide⟩, bnd_some]
    unfold onb
    refine ⟨fun L z => (by cases z), fun k q z => ?_⟩
    cases z
    refine ⟨fnd G t 0, m2, ?_, b2, b3⟩
    rw [cW_failHere_F b2, bnd_some, cW_next_F b2, bnd_some]
    (repeat' split) <;> rfl
  | inr L =>
    have nl := (sNam_n S.2.1 es).1
    have lr := nmL_rng nl
    have fr := fnd_rng (G := G) (t := t) (x := n32 L) c2
    rw [hN.1 L es, bnd_some, cH_named_ok p c h0 h4 ⟨by omega, by omega⟩, bnd_some, fnd_w c h0 h4]
    unfold onb
    dsimp only
    by_cases d : fnd G t (n32 L) = -1
    · obtain ⟨m2, b1, b2, b3⟩ := cW_failHere_S (k := 3) S (by decide) (by decide) (by decide)
      rw [if_pos d, if_pos (Or.inl d), b1, bnd_some, cW_next_F b2, bnd_some]
      exact ⟨fun L z => (by cases z), fun k q z => by cases z; exact ⟨_, m2, rfl, b2, b3⟩⟩
    · rw [if_neg d, bt_shr hs0 (by omega) (by omega) (by omega)]
      by_cases e : bt st (fnd G t (n32 L)) = 1
      · obtain ⟨m2, b1, b2, b3⟩ := cW_failHere_S (k := 3) S (by decide) (by decide) (by decide)
        rw [if_pos e, if_pos (Or.inr e), b1, bnd_some, cW_next_F b2, bnd_some]
        exact ⟨fun L z => (by cases z), fun k q z => by cases z; exact ⟨_, m2, rfl, b2, b3⟩⟩
      · obtain ⟨m2, b1, b2, b3⟩ := cW_next_S S
        rw [if_neg e, if_neg (fun z => z.elim d e), b1, bnd_some]
        exact ⟨fun k z => (by cases z; exact ⟨m2, rfl, b2, b3⟩), fun k q z => by cases z⟩
theorem readKnown_F (p : isH h) (c : CN m h G) {t st k q : Int} (h0 : 0 ≤ t) (h4 : t < 4) (F : CF m k q) : ∃ r, cR_readKnown h t st m = some (r, m) := by
  unfold cR_readKnown cR_readKnown_30 cR_readKnown_38
  rw [cW_nameHere_F F, bnd_some, cH_named_ok p c h0 h4 ⟨by decide, by decide⟩, bnd_some, cW_failHere_F F, bnd_some, cW_next_F F, bnd_some]
  refine ⟨fnd G t 0, ?_⟩
  (repeat' split) <;> rfl
/-! the reference's -/
theorem r_isFull_S (S : RS m B n s) (c : RN m G) {t q : Int} (h0 : 0 ≤ t) (h4 : t < 4) (hm : G 0 t ≤ mok t) (hq : rg q) : (mok t ≤ G 0 t → ∃ m', r_isFull t (mok t) q m = some (1, m') ∧ RB m' 5 q ∧ FR m m') ∧ (¬ mok t ≤ G 0 t → r_isFull t (mok t) q m = some (0, m)) := by
  have mk := mok_rng h0 h4
  obtain ⟨c1, c2, c3⟩ := c.1 t h0 h4
  unfold r_isFull r_isFull_23
  rw [if_pos S.2.2.1, ial_in h0 (by rw [al101]; omega), w32_ld, c1, w32_id (x := mok t) (by omega) (by omega), if_pos S.2.2.1]
  constructor
  · intro d
    obtain ⟨m2, b1, b2, b3⟩ := r_fail_S (k := 5) (p := q) S (by decide) (by decide) (by decide) hq
    rw [if_pos (by omega), b1, bnd_some, if_neg (by rw [b2.2.1]; decide)]
    exact ⟨m2, rfl, b2, b3⟩
  · intro d
    rw [if_neg (by omega)]
theorem FN_RN {m' : xm} (f : FN m m') (c : RN m G) : RN m' G := RN_cg c (fun k => f 101 k (by omega)) (fun k => f 102 k (by omega))
theorem newName_B {f : Nat} {v i k q : Int} (F : RB m k q) : ∀ r : Nat, i + (r : Int) = 4 → 0 ≤ i → r < f → r_newName_7 f v i m = some (v, m) := by
  intro r
  induction r generalizing f i with
  | zero =>
    intro hi h0 hf
    obtain ⟨f, rfl⟩ : ∃ f', f = f' + 1 := ⟨f - 1, by omega⟩
    rw [r_newName_7, w32_id (by omega) (by omega), if_pos (by omega)]
  | succ r ih =>
    intro hi h0 hf
    obtain ⟨f, rfl⟩ : ∃ f', f = f' + 1 := ⟨f - 1, by omega⟩
    rw [r_newName_7, w32_id (by omega) (by omega), if_neg (by omega), if_neg (by rw [F.2.1]; exact F.1)]
    unfold r_newName_38
    exact ih (by omega) (by omega) (by omega)
theorem r_newName_S (S : RS m B n s) (c : RN m G) : (∀ L, nwb G B n s (sNam B n s) = .inr L → ∃ m', r_newName m = some (n27 0 L, m') ∧ RS m' B n (nx B n s) ∧ FN m m') ∧ (∀ k q, nwb G B n s (sNam B n s) = .inl (k, q) → ∃ r m', r_newName m = some (r, m') ∧ RB m' k q ∧ FN m m') := by
  have hN := r_name_S S
  unfold r_newName
  cases es : sNam B n s with
  | inl x =>
    obtain ⟨k, q⟩ := x
    obtain ⟨m2, b1, b2, b3⟩ := hN.2 k q es
    rw [b1, bnd_some, newName_B b2 4 (by decide) (by decide) (by rw [xLF_eq]; omega)]
    unfold nwb
    exact ⟨fun L z => (by cases z), fun k q z => by cases z; exact ⟨_, m2, rfl, b2, b3⟩⟩
  | inr L =>
    have nl := (sNam_n S.2.1 es).1
    obtain ⟨m2, b1, b2, b4, b3⟩ := hN.1 L es
    have c2 := FN_RN b3 c
    have tr := tq_rg (B := B) (RT_TB S.1) S.2.1
    rw [b1, bnd_some]
    have step : ∀ (f : Nat) (t : Int), 0 ≤ t → t < 4 → (fnd G t (n32 L) = -1 → r_newName_7 (f + 1) (n27 0 L) t m2 = r_newName_7 f (n27 0 L) (t + 1) m2) ∧ (fnd G t (n32 L) ≠ -1 → 4 < f → ∃ m', r_newName_7 (f + 1) (n27 0 L) t m2 = some (n27 0 L, m') ∧ RB m' 3 (tq B n s) ∧ FN m m') := by
      intro f t h0 h4
      obtain ⟨c4, c5, c6⟩ := c2.1 t h0 h4
      have fr := fnd_rng (G := G) (t := t) (x := n32 L) c5
      rw [r_newName_7, w32_id (x := t) (by omega) (by omega), if_neg (by omega), if_pos b2.2.2.1, r_nameOf_ok c2 nl h0 h4, bnd_some, w32_id (by omega) (by omega)]
      unfold r_newName_38
      constructor
      · intro z
        rw [if_pos z]
      · intro z hf
        obtain ⟨m3, d1, d2, d3⟩ := r_fail_S (k := 3) (p := tq B n s) b2 (by decide) (by decide) (by decide) tr
        rw [if_neg z, b4, d1, bnd_some]
        refine ⟨m3, ?_, d2, FN_trans b3 (FN_FR d3)⟩
        exact newName_B d2 (4 - (t + 1)).toNat (by omega) (by omega) (by omega)
    unfold nwb
    dsimp only
    have bad : knb G (n32 L) = true → ∃ m', r_newName_7 xLF (n27 0 L) 0 m2 = some (n27 0 L, m') ∧ RB m' 3 (tq B n s) ∧ FN m m' := by
      intro z
      have kn := knb_iff.mp z
      unfold kno at kn
      rw [xLF_eq]
      by_cases d0 : fnd G 0 (n32 L) = -1
      · rw [(step 19999 0 (by decide) (by decide)).1 d0]
        simp only [Int.reduceAdd]
        by_cases d1 : fnd G 1 (n32 L) = -1
        · rw [(step 19998 1 (by decide) (by decide)).1 d1]
          simp only [Int.reduceAdd]
          by_cases d2 : fnd G 2 (n32 L) = -1
          · rw [(step 19997 2 (by decide) (by decide)).1 d2]
            simp only [Int.reduceAdd]
            exact (step 19996 3 (by decide) (by decide)).2 (fun d3 => kn ⟨d0, d1, d2, d3⟩) (by decide)
          · exact (step 19997 2 (by decide) (by decide)).2 d2 (by decide)
        · exact (step 19998 1 (by decide) (by decide)).2 d1 (by decide)
      · exact (step 19999 0 (by decide) (by decide)).2 d0 (by decide)
    by_cases g : knb G (n32 L) = true
    · obtain ⟨m3, d1, d2, d3⟩ := bad g
      rw [if_pos g, d1]
      exact ⟨fun L z => (by cases z), fun k q z => by cases z; exact ⟨_, m3, rfl, d2, d3⟩⟩
    · rw [if_neg g]
      refine ⟨fun M z => ?_, fun k q z => by cases z⟩
      cases z
      refine ⟨m2, ?_, b2, b3⟩
      have kn : fnd G 0 (n32 L) = -1 ∧ fnd G 1 (n32 L) = -1 ∧ fnd G 2 (n32 L) = -1 ∧ fnd G 3 (n32 L) = -1 := Decidable.byContradiction (fun z => g (knb_iff.mpr z))
      rw [xLF_eq, (step 19999 0 (by decide) (by decide)).1 kn.1]
      simp only [Int.reduceAdd]
      rw [(step 19998 1 (by decide) (by decide)).1 kn.2.1]
      simp only [Int.reduceAdd]
      rw [(step 19997 2 (by decide) (by decide)).1 kn.2.2.1]
      simp only [Int.reduceAdd]
      rw [(step 19996 3 (by decide) (by decide)).1 kn.2.2.2]
      simp only [Int.reduceAdd]
      rw [show (19996 : Nat) = 19995 + 1 from rfl, r_newName_7, if_pos (by decide)]
theorem r_oneOf_S (S : RS m B n s) (c : RN m G) {t st : Int} (h0 : 0 ≤ t) (h4 : t < 4) (hs0 : 0 ≤ st) (hs1 : st < 64) : (∀ k, sOne B n G t st s = .inr k → ∃ m', r_oneOf t st m = some (k, m') ∧ RS m' B n (nx B n s) ∧ FN m m') ∧ (∀ k q, sOne B n G t st s = .inl (k, q) → ∃ m', r_oneOf t st m = some (0, m') ∧ RB m' k q ∧ FN m m') := by
  have hN := r_name_S S
  have T45 : ∀ {m' : xm} {k q v : Int}, RB m' k q → r_oneOf_45 v m' = some (0, m') := by
    intro m' k q v F
    unfold r_oneOf_45
    rw [if_neg (by rw [F.2.1]; exact F.1)]
  unfold r_oneOf sOne
  cases es : sNam B n s with
  | inl x =>
    obtain ⟨k, q⟩ := x
    obtain ⟨m2, b1, b2, b3⟩ := hN.2 k q es
    obtain ⟨r, e⟩ := r_nameOf_any (FN_RN b3 c) (t := t) (x := 0) h0 h4
    rw [b1, bnd_some, e, bnd_some, if_neg (by rw [b2.2.1]; exact b2.1), T45 b2]
    unfold onb
    exact ⟨fun L z => (by cases z), fun k q z => by cases z; exact ⟨m2, rfl, b2, b3⟩⟩
  | inr L =>
    have nl := (sNam_n S.2.1 es).1
    obtain ⟨m2, b1, b2, b4, b3⟩ := hN.1 L es
    have c2 := FN_RN b3 c
    have tr := tq_rg (B := B) (RT_TB S.1) S.2.1
    obtain ⟨c4, c5, c6⟩ := c2.1 t h0 h4
    have fr := fnd_rng (G := G) (t := t) (x := n32 L) c5
    have T36 : ∀ v, ∃ m', r_oneOf_36 v m2 = some (0, m') ∧ RB m' 3 (tq B n s) ∧ FN m m' := by
      intro v
      obtain ⟨m3, d1, d2, d3⟩ := r_fail_S (k := 3) (p := tq B n s) b2 (by decide) (by decide) (by decide) tr
      unfold r_oneOf_36
      rw [b4, d1, bnd_some, T45 d2]
      exact ⟨m3, rfl, d2, FN_trans b3 (FN_FR d3)⟩
    rw [b1, bnd_some, r_nameOf_ok c2 nl h0 h4, bnd_some, if_pos b2.2.2.1, w32_id (by omega) (by omega)]
    unfold onb
    dsimp only
    by_cases d : fnd G t (n32 L) = -1
    · obtain ⟨m3, d1, d2, d3⟩ := T36 (fnd G t (n32 L))
      rw [if_pos d, if_pos (Or.inl d), d1]
      exact ⟨fun L z => (by cases z), fun k q z => by cases z; exact ⟨m3, rfl, d2, d3⟩⟩
    · rw [if_neg d, bt_shr hs0 (by omega) (by omega) (by omega)]
      by_cases e : bt st (fnd G t (n32 L)) = 1
      · obtain ⟨m3, d1, d2, d3⟩ := T36 (fnd G t (n32 L))
        rw [if_pos e, if_pos (Or.inr e), d1]
        exact ⟨fun L z => (by cases z), fun k q z => by cases z; exact ⟨m3, rfl, d2, d3⟩⟩
      · rw [if_neg e, if_neg (fun z => z.elim d e)]
        unfold r_oneOf_45
        rw [if_pos b2.2.2.1]
        exact ⟨fun k z => (by cases z; exact ⟨m2, rfl, b2, b3⟩), fun k q z => by cases z⟩
theorem r_oneOf_B (c : RN m G) {t st k q : Int} (h0 : 0 ≤ t) (h4 : t < 4) (F : RB m k q) : r_oneOf t st m = some (0, m) := by
  obtain ⟨r, e⟩ := r_nameOf_any c (t := t) (x := 0) h0 h4
  unfold r_oneOf r_oneOf_45
  rw [r_name_B F, bnd_some, e, bnd_some, if_neg (by rw [F.2.1]; exact F.1), if_neg (by rw [F.2.1]; exact F.1)]
end NEW
