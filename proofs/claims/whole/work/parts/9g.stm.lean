/-! statements as they are told; the program's lock, door, rust -/
abbrev HS : Type := Sum (Int × Int) (hv × Int × (Int × Int))
def nlb (r : Sum (Int × Int) (List Int)) (f : List Int → HS) : HS := match r with
  | .inl e => .inl e
  | .inr L => f L
def nub (r : Sum (Int × Int) Int) (f : Int → HS) : HS := match r with
  | .inl e => .inl e
  | .inr v => f v
def dbd (r : PRS) (f : (Int × Int) → List Int → HS) : HS := match r with
  | .inl e => .inl e
  | .inr p => f p.1 p.2
def wdb (B : Int → Int) (n : Int) (w : List Nat) (s : Int × Int) (f : HS) : HS := if isW B n w s = true then f else .inl (1, tq B n s)
def sLock (B : Int → Int) (n : Int) (G : hv) (z : Int) (s : Int × Int) : HS :=
  nlb (sNew B n G 0 s) fun L => wdb B n (lit 2) (nx B n (nx B n s)) (nub (sNum B n 2 5 (nx B n (nx B n (nx B n s)))) fun w => wdb B n (lit 3) (nx B n (nx B n (nx B n (nx B n s)))) (nub (sNum B n 0 (w - 1) (nx B n (nx B n (nx B n (nx B n (nx B n s)))))) fun a =>
    if isW B n (lit 4) (nx B n (nx B n (nx B n (nx B n (nx B n (nx B n s)))))) = true then nub (sNum B n 0 (w - 1) (nx B n (nx B n (nx B n (nx B n (nx B n (nx B n (nx B n s)))))))) fun j => .inr (aLk G L w a j, z, nx B n (nx B n (nx B n (nx B n (nx B n (nx B n (nx B n (nx B n s))))))))
    else .inr (aLk G L w a (-1), z, nx B n (nx B n (nx B n (nx B n (nx B n (nx B n s))))))))
def sTn (B : Int → Int) (n z nn : Int) : Nat → hv → Int → (Int × Int) → HS
  | 0, _, _, _ => .inl (0, 0)
  | f + 1, G, st, s => nub (sOne B n G 0 st s) fun l => nub (sNum B n 1 4 (nx B n s)) fun v => if ltr (see B n (tq B n (nx B n (nx B n s)))) = true then sTn B n z nn f (aTn G nn l v) (sb st l) (nx B n (nx B n s)) else .inr (aTn G nn l v, z, nx B n (nx B n s))
def sNote (B : Int → Int) (n : Int) (G : hv) (z : Int) (s : Int × Int) : HS := nlb (sNew B n G 1 s) fun L => wdb B n (lit 6) (nx B n (nx B n s)) (sTn B n z (nN G) 10 (aNm G 1 L) 0 (nx B n (nx B n (nx B n s))))
def sPl (B : Int → Int) (n z pp : Int) : Nat → hv → Int → (Int × Int) → HS
  | 0, _, _, _ => .inl (0, 0)
  | f + 1, G, st, s => nub (sOne B n G 1 st s) fun l => if ltr (see B n (tq B n (nx B n s))) = true then sPl B n z pp f (aPy G pp (sb st l)) (sb st l) (nx B n s) else .inr (aPy G pp (sb st l), z, nx B n s)
def sPlayer (B : Int → Int) (n : Int) (G : hv) (z : Int) (s : Int × Int) : HS := nlb (sNew B n G 3 s) fun L => wdb B n (lit 23) (nx B n (nx B n s)) (sPl B n z (nP G) 10 (aNm G 3 L) 0 (nx B n (nx B n (nx B n s))))
def sDoor (B : Int → Int) (n : Int) (G : hv) (z : Int) (s : Int × Int) : HS := nlb (sNew B n G 2 s) fun L => wdb B n (lit 8) (nx B n (nx B n s)) (dbd (sp B n false 100 0 0 0 (nx B n (nx B n (nx B n s)))) fun s' C => .inr (aDr G L C z, z + (C.length : Int), s'))
def sRust (B : Int → Int) (n : Int) (G : hv) (z : Int) (s : Int × Int) : HS := wdb B n (lit 24) s (nub (sNum B n 0 100 (nx B n s)) fun v => .inr (st G 0 4 v, z, nx B n (nx B n s)))
/-! the program -/
def HC (m : xm) (h : Nat) (G : hv) (z : Int) : Prop := CH m h G ∧ ld m (h + 1) 2 = z
def FHc (h : Nat) (m m' : xm) : Prop := ∀ a k, a ≠ 3 → ¬ (h ≤ a ∧ a ≤ h + 13) → m' a k = m a k
theorem FHc_trans {h : Nat} {m1 m2 m3 : xm} (h1 : FHc h m1 m2) (h2 : FHc h m2 m3) : FHc h m1 m3 := fun a k g1 g2 => by rw [h2 a k g1 g2, h1 a k g1 g2]
theorem FHc_F3 {h : Nat} {m m' : xm} (f : F3 m m') : FHc h m m' := fun a k g _ => f a k g
theorem FHc_refl {h : Nat} {m : xm} : FHc h m m := fun _ _ _ _ => rfl
def HRc (B : Int → Int) (n : Int) (h : Nat) (m0 : xm) (r : HS) (X : xr) : Prop :=
  (∀ G' z' s', r = .inr (G', z', s') → ∃ m', X = some (0, m') ∧ CS m' B n s' ∧ HC m' h G' z' ∧ FHc h m0 m') ∧
  (∀ k q, r = .inl (k, q) → ∃ m', X = some (0, m') ∧ (CF m' k q ∨ ∃ s', CS m' B n s' ∧ tkd B n s' = 4 ∧ k = 1 ∧ q = tq B n s') ∧ (∃ G', CN m' h G') ∧ FHc h m0 m')
section STC
variable {B : Int → Int} {n : Int} {s : Int × Int} {m m0 : xm} {G : hv} {h : Nat} {z : Int}
theorem HRc_inr {G' : hv} {z' : Int} {s' : Int × Int} (h1 : CS m B n s') (h2 : HC m h G' z') (h3 : FHc h m0 m) : HRc B n h m0 (.inr (G', z', s')) (some (0, m)) := ⟨fun a b c y => (by cases y; exact ⟨m, rfl, h1, h2, h3⟩), fun k q y => by cases y⟩
theorem HRc_inl {k q : Int} (h1 : CF m k q) (h2 : CN m h G) (h3 : FHc h m0 m) : HRc B n h m0 (.inl (k, q)) (some (0, m)) := ⟨fun a b c y => (by cases y), fun k q y => by cases y; exact ⟨m, rfl, Or.inl h1, ⟨G, h2⟩, h3⟩⟩
theorem cell_any {a : Nat} {k : Int} : ∃ x, cL_cell a k m = some (x, m) := by
  unfold cL_cell ial
  by_cases c : w32 k < 0
  · rw [if_pos c]; exact ⟨_, rfl⟩
  · rw [if_neg c]
    by_cases d : aln a ≤ w32 k
    · rw [if_pos d]; exact ⟨_, rfl⟩
    · rw [if_neg d, if_pos ⟨by omega, by omega⟩]; exact ⟨_, rfl⟩
theorem setCell_any {a : Nat} {k v : Int} : ∃ m', cL_setCell a k v m = some (0, m') ∧ ∀ b j, b ≠ a → m' b j = m b j := by
  unfold cL_setCell ias
  by_cases c : w32 k < 0
  · rw [if_pos c]; exact ⟨m, rfl, fun _ _ _ => rfl⟩
  · rw [if_neg c]
    by_cases d : aln a ≤ w32 k
    · rw [if_pos d]; exact ⟨m, rfl, fun _ _ _ => rfl⟩
    · rw [if_neg d, if_pos ⟨by omega, by omega⟩]; exact ⟨_, rfl, fun b j g => st_at (fun y => g y.1)⟩
theorem isOne_any {t i : Int} : ∃ x, cH_isOne h t i m = some (x, m) := by
  unfold cH_isOne
  obtain ⟨x, e⟩ := cell_any (m := m) (a := h + 4) (k := t)
  rw [e, bnd_some]
  (repeat' split) <;> exact ⟨_, rfl⟩
theorem CN_F3 (p : isH h) (c : CN m h G) {m' : xm} (f : F3 m m') : CN m' h G := by
  have pr := isH_rng p
  exact CN_cg c (fun k => f (h + 4) k (by omega)) (fun k => f (h + 5) k (by omega))
theorem CN_new {m' : xm} {t : Int} {L : List Int} (p : isH h) (c : CN m h G) (h0 : 0 ≤ t) (h4 : t < 4) (h6 : G 0 t < 6) (e5 : ld m' (h + 5) (6 * t + G 0 t) = n32 L) (e4 : ld m' (h + 4) t = G 0 t + 1) (e : ∀ b k, b ≠ 3 → ¬ (b = h + 5 ∧ k = 6 * t + G 0 t) → ¬ (b = h + 4 ∧ k = t) → m' b k = m b k) : CN m' h (aNm G t L) := by
  have pr := isH_rng p
  have ct := (c.1 t h0 h4).2
  refine ⟨fun k g1 g2 => ?_, fun t' i g1 g2 g3 g4 => ?_⟩
  · have ck := c.1 k g1 g2
    rw [aNm_0]
    by_cases y : k = t
    · rw [if_pos y, y, e4]; omega
    · rw [if_neg y, ldq (e (h + 4) k (by omega) (by omega) (by omega))]
      exact ck
  · have ck := (c.1 t' g1 g2).2
    rw [aNm_0] at g4
    rw [aNm_9]
    by_cases y : 6 * t' + i = 6 * t + G 0 t
    · rw [if_pos y, y, e5]
    · have : i < G 0 t' := by
        by_cases x : t' = t
        · rw [if_pos x] at g4
          subst x
          omega
        · rw [if_neg x] at g4
          exact g4
      rw [if_neg y, ldq (e (h + 5) _ (by omega) (by omega) (by omega))]
      exact c.2 t' i g1 g2 g3 this
theorem tellLock_any (p : isH h) {v1 v2 v3 v4 : Int} : ∃ m', cH_tellLock h v1 v2 v3 v4 m = some (0, m') ∧ ∀ b j, b ≠ h → b ≠ h + 6 → b ≠ h + 7 → b ≠ h + 8 → m' b j = m b j := by
  unfold cH_tellLock
  obtain ⟨x, e⟩ := isOne_any (m := m) (h := h) (t := 0) (i := v1)
  rw [e, bnd_some]
  by_cases c : w32 x = 0
  · rw [if_pos c]; exact ⟨m, rfl, fun _ _ _ _ _ _ => rfl⟩
  · obtain ⟨m1, a1, a2⟩ := setCell_any (m := m) (a := h + 6) (k := v1) (v := v2)
    obtain ⟨m2, b1, b2⟩ := setCell_any (m := m1) (a := h + 7) (k := v1) (v := v4)
    obtain ⟨m3, d1, d2⟩ := setCell_any (m := m2) (a := h + 8) (k := v1) (v := ld m2 h 12)
    rw [if_neg c, a1, bnd_some, b1, bnd_some, d1, bnd_some, stf_eq, stf_eq]
    exact ⟨_, rfl, fun b j g1 g2 g3 g4 => by rw [st_at (fun y => g1 y.1), st_at (fun y => g1 y.1), d2 b j g4, b2 b j g3, a2 b j g2]⟩
theorem lock_tail (p : isH h) {k q r1 r5 r9 x : Int} (F : CF m k q) (c : CN m h G) (f : FHc h m0 m) : ∃ m', cR_readLock_75 h r1 r5 r9 x m = some (0, m') ∧ CF m' k q ∧ CN m' h G ∧ FHc h m0 m' := by
  have pr := isH_rng p
  obtain ⟨m', a1, a2⟩ := tellLock_any (m := m) (v1 := r1) (v2 := r5) (v3 := r9) (v4 := x) p
  unfold cR_readLock_75
  rw [xlt_eq, a1, bnd_some]
  exact ⟨m', rfl, CF_cg F (fun a j g => a2 a j (by omega) (by omega) (by omega) (by omega)), CN_cg c (fun j => a2 _ j (by omega) (by omega) (by omega) (by omega)) (fun j => a2 _ j (by omega) (by omega) (by omega) (by omega)), FHc_trans f (fun a j g1 g2 => a2 a j (by omega) (by omega) (by omega) (by omega))⟩
theorem readLock_S (p : isH h) (S : CS m B n s) (I : GI G z) (H : HC m h G z) : HRc B n h m (sLock B n G z s) (cR_readLock h m) := by
  have pr := isH_rng p
  have al := alnH p
  obtain ⟨wf, wD, h7, hz, h5⟩ := I
  have cN := CH_CN wf H.1
  have hN := readNew_S p S cN (t := 0) (by decide) (by decide)
  unfold sLock cR_readLock
  cases e1 : sNew B n G 0 s with
  | inl x =>
    obtain ⟨k, q⟩ := x
    obtain ⟨m1, a1, a2, a3⟩ := hN.2 k q e1
    obtain ⟨m2, b1, b2, b3, b4⟩ := lock_tail (r1 := -1) (r5 := 2) (r9 := 0) (x := -1) p a2 (CN_F3 p cN a3) (FHc_F3 (h := h) a3)
    rw [a1, bnd_some, cW_needWord_F a2, bnd_some, cW_needNumber_F a2, bnd_some, cW_needWord_F a2, bnd_some, cW_needNumber_F a2, bnd_some, cW_takeWord_F a2, bnd_some, if_pos (by rfl), b1]
    exact HRc_inl b2 b3 b4
  | inr L =>
    obtain ⟨m1, a1, a2, a5, a4, a3⟩ := hN.1 L e1
    obtain ⟨nl, nf, -, -, -⟩ := sNew_L S.2.1 e1
    have nf : nL G < 4 := nf
    have l0 := wf.1.1
    have c1 := CN_new p cN (by decide) (by decide) (by unfold nL at nf; omega) a5 a4 a3
    have f1 : FHc h m m1 := fun a k g1 g2 => a3 a k g1 (by omega) (by omega)
    rw [a1, bnd_some]
    dsimp only [nlb]
    unfold wdb
    -- wards
    have hW := cW_needWord_S (j := 2) (by decide) a2
    by_cases w2 : isW B n (lit 2) (nx B n (nx B n s)) = false
    · obtain ⟨m2, b1, b2, b3⟩ := hW.2 w2
      obtain ⟨m3, d1, d2, d3, d4⟩ := lock_tail (r1 := G 0 0) (r5 := 2) (r9 := 0) (x := -1) p b2 (CN_F3 p c1 b3) (FHc_trans f1 (FHc_F3 b3))
      rw [if_neg (bF w2), b1, bnd_some, cW_needNumber_F b2, bnd_some, cW_needWord_F b2, bnd_some, cW_needNumber_F b2, bnd_some, cW_takeWord_F b2, bnd_some, if_pos (by rfl), d1]
      exact HRc_inl d2 d3 d4
    have w2 : isW B n (lit 2) (nx B n (nx B n s)) = true := by simpa using w2
    obtain ⟨m2, b1, b2, b3⟩ := hW.1 w2
    rw [if_pos w2, b1, bnd_some]
    have hU := cW_needNumber_S (lo := 2) (hi := 5) b2 (by decide) (by decide) ⟨by decide, by decide⟩
    cases e2 : sNum B n 2 5 (nx B n (nx B n (nx B n s))) with
    | inl x =>
      obtain ⟨k, q⟩ := x
      obtain ⟨m3, d1, d2, d3⟩ := hU.2 k q e2
      obtain ⟨m4, g1, g2, g3, g4⟩ := lock_tail (r1 := G 0 0) (r5 := 2) (r9 := 0) (x := -1) p d2 (CN_F3 p c1 (F3_trans b3 d3)) (FHc_trans f1 (FHc_F3 (F3_trans b3 d3)))
      rw [d1, bnd_some, cW_needWord_F d2, bnd_some, cW_needNumber_F d2, bnd_some, cW_takeWord_F d2, bnd_some, if_pos (by rfl), g1]
      exact HRc_inl g2 g3 g4
    | inr w =>
      obtain ⟨m3, d1, d2, d3⟩ := hU.1 w e2
      have wr := sNum_rng e2
      rw [d1, bnd_some]
      dsimp only [nub]
      have hW := cW_needWord_S (j := 3) (by decide) d2
      by_cases w3 : isW B n (lit 3) (nx B n (nx B n (nx B n (nx B n s)))) = false
      · obtain ⟨m4, g1, g2, g3⟩ := hW.2 w3
        obtain ⟨m5, k1, k2, k3, k4⟩ := lock_tail (r1 := G 0 0) (r5 := w) (r9 := 0) (x := -1) p g2 (CN_F3 p c1 (F3_trans b3 (F3_trans d3 g3))) (FHc_trans f1 (FHc_F3 (F3_trans b3 (F3_trans d3 g3))))
        rw [if_neg (bF w3), g1, bnd_some, cW_needNumber_F g2, bnd_some, cW_takeWord_F g2, bnd_some, if_pos (by rfl), k1]
        exact HRc_inl k2 k3 k4
      have w3 : isW B n (lit 3) (nx B n (nx B n (nx B n (nx B n s)))) = true := by simpa using w3
      obtain ⟨m4, g1, g2, g3⟩ := hW.1 w3
      have f34 := F3_trans b3 (F3_trans d3 g3)
      rw [if_pos w3, g1, bnd_some]
      have hU := cW_needNumber_S (lo := 0) (hi := w - 1) g2 (by decide) (by decide) ⟨by omega, by omega⟩
      cases e3 : sNum B n 0 (w - 1) (nx B n (nx B n (nx B n (nx B n (nx B n s))))) with
      | inl x =>
        obtain ⟨k, q⟩ := x
        obtain ⟨m5, k1, k2, k3⟩ := hU.2 k q e3
        obtain ⟨m6, y1, y2, y3, y4⟩ := lock_tail (r1 := G 0 0) (r5 := w) (r9 := 0) (x := -1) p k2 (CN_F3 p c1 (F3_trans f34 k3)) (FHc_trans f1 (FHc_F3 (F3_trans f34 k3)))
        rw [k1, bnd_some, cW_takeWord_F k2, bnd_some, if_pos (by rfl), y1]
        exact HRc_inl y2 y3 y4
      | inr a =>
        obtain ⟨m5, k1, k2, k3⟩ := hU.1 a e3
        have ar := sNum_rng e3
        rw [k1, bnd_some]
        dsimp only
        have f5 := F3_trans f34 k3
        -- the end of it
        have fin : ∀ {m6 : xm} {s6 : Int × Int} {j : Int}, CS m6 B n s6 → F3 m1 m6 → -1 ≤ j → j < w → HRc B n h m (.inr (aLk G L w a j, z, s6)) (cR_readLock_75 h (G 0 0) w a j m6) := by
          intro m6 s6 j S6 f6 j1 j2
          have e : ∀ b k, b ≠ 3 → ¬ (b = h + 5 ∧ k = 6 * 0 + G 0 0) → ¬ (b = h + 4 ∧ k = 0) → m6 b k = m b k := fun b k x1 x2 x3 => by rw [f6 b k x1, a3 b k x1 x2 x3]
          have e4 : ld m6 (h + 4) 0 = G 0 0 + 1 := by rw [ldq (f6 (h + 4) 0 (by omega)), a4]
          have e5 : ld m6 (h + 5) (nL G) = n32 L := by
            rw [ldq (f6 (h + 5) _ (by omega))]
            rw [show 6 * 0 + G 0 0 = nL G by unfold nL; omega] at a5
            exact a5
          have e12 : ld m6 h 12 = wy G := by rw [ldq (e h 12 (by omega) (by omega) (by omega))]; exact ch_wy H.1
          have e13 : ld m6 h 13 = fs G := by rw [ldq (e h 13 (by omega) (by omega) (by omega))]; exact ch_fs H.1
          have gw := wy_pos wf.1
          have gf := vs_s wf.1 (vs_fs wf)
          have n0 : nL G = G 0 0 := rfl
          have i1 : cH_isOne h 0 (G 0 0) m6 = some (1, m6) := by
            unfold cH_isOne
            rw [if_neg (by decide), if_neg (by decide), w32_id (by omega) (by omega), if_neg (by omega), cell_in (by decide) (by omega), bnd_some, w32_ld, e4, if_neg (by omega)]
          have aw : 0 ≤ a * wy G ∧ a * wy G ≤ 4 * 625 := ⟨Int.mul_nonneg (by omega) (by omega), Int.mul_le_mul (by omega) gw.2 (by omega) (by omega)⟩
          have ww : 0 ≤ wy G * w ∧ wy G * w ≤ 625 * 5 := ⟨Int.mul_nonneg (by omega) (by omega), Int.mul_le_mul gw.2 (by omega) (by omega) (by omega)⟩
          unfold cR_readLock_75 cH_tellLock
          rw [xlt_eq, i1, bnd_some, if_neg (by decide), setCell_in (by omega) (by omega), bnd_some, setCell_in (by omega) (by omega), bnd_some, setCell_in (by omega) (by omega), bnd_some, stf_eq, stf_eq, bnd_some, ld_st_nc (by omega), ld_st_nc (by omega), e12, ld_st_nc (by omega), ld_st_nc (by omega), ld_st_nc (by omega), e13, ld_st_nc (by omega), ld_st_nc (by omega), ld_st_nc (by omega), e12, ld_st_ne (by decide), ld_st_nc (by omega), ld_st_nc (by omega), ld_st_nc (by omega), e12]
          refine HRc_inr (CS_cg S6 (fun b k x => by rw [st_at (by omega), st_at (by omega), st_at (by omega), st_at (by omega), st_at (by omega)])) ⟨CH_lock p wf H.1 nf ?_ ?_ ?_ ?_ ?_ ?_ ?_ ?_, ?_⟩ ?_
          · rw [ld_st_nc (by omega), ld_st_nc (by omega), ld_st_nc (by omega), ld_st_nc (by omega), ld_st_nc (by omega), e4]; rfl
          · rw [ld_st_nc (by omega), ld_st_nc (by omega), ld_st_nc (by omega), ld_st_nc (by omega), ld_st_nc (by omega), e5]
          · rw [ld_st_nc (by omega), ld_st_nc (by omega), ld_st_nc (by omega), ld_st_nc (by omega), n0, ld_st_eq, w32_id (by omega) (by omega)]
          · rw [ld_st_nc (by omega), ld_st_nc (by omega), ld_st_nc (by omega), n0, ld_st_eq, w32_id (by omega) (by omega)]
          · rw [ld_st_nc (by omega), ld_st_nc (by omega), n0, ld_st_eq, w32_id (by omega) (by omega)]
          · rw [ld_st_ne (by decide), ld_st_eq, w32_id (by omega) (by omega)]
          · rw [ld_st_eq, w32_id (by omega) (by omega)]
          · intro b k x1 x2 x3 x4 x5 x6 x7
            rw [st_at (by omega), st_at (by omega), st_at (by omega), st_at (by omega), st_at (by omega), e b k x7 (by unfold nL at x2; omega) (by omega)]
          · rw [ld_st_nc (by omega), ld_st_nc (by omega), ld_st_nc (by omega), ld_st_nc (by omega), ld_st_nc (by omega), ldq (e (h + 1) 2 (by omega) (by omega) (by omega)), H.2]
          · intro b k x1 x2
            rw [st_at (by omega), st_at (by omega), st_at (by omega), st_at (by omega), st_at (by omega), e b k x1 (by omega) (by omega)]
        have hT := cW_takeWord_S (j := 4) (by decide) k2
        by_cases w4 : isW B n (lit 4) (nx B n (nx B n (nx B n (nx B n (nx B n (nx B n s)))))) = true
        · obtain ⟨m6, y1, y2, y3⟩ := hT.1 w4
          rw [if_pos w4, y1, bnd_some, if_neg (by decide)]
          have hU := cW_needNumber_S (lo := 0) (hi := w - 1) y2 (by decide) (by decide) ⟨by omega, by omega⟩
          cases e4 : sNum B n 0 (w - 1) (nx B n (nx B n (nx B n (nx B n (nx B n (nx B n (nx B n s))))))) with
          | inl x =>
            obtain ⟨k, q⟩ := x
            obtain ⟨m7, x1, x2, x3⟩ := hU.2 k q e4
            obtain ⟨m8, v1, v2, v3, v4⟩ := lock_tail (r1 := G 0 0) (r5 := w) (r9 := a) (x := 0) p x2 (CN_F3 p c1 (F3_trans f5 (F3_trans y3 x3))) (FHc_trans f1 (FHc_F3 (F3_trans f5 (F3_trans y3 x3))))
            rw [x1, bnd_some, v1]
            exact HRc_inl v2 v3 v4
          | inr j =>
            obtain ⟨m7, x1, x2, x3⟩ := hU.1 j e4
            have jr := sNum_rng e4
            rw [x1, bnd_some]
            exact fin x2 (F3_trans f5 (F3_trans y3 x3)) (by omega) (by omega)
        · rw [if_neg w4, hT.2 (by simpa using w4), bnd_some, if_pos (show w32 0 = 0 by rfl)]
          exact fin k2 f5 (by decide) (by omega)
end STC
