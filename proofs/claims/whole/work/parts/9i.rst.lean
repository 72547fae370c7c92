/-! the reference's statements: lock, rust -/
def RHp (m : xm) (G : hv) (z : Int) : Prop := (∀ t, 0 ≤ t → t < 4 → ld m 101 t = G 0 t) ∧ ld m 106 0 = ru G ∧
  (∀ l, 0 ≤ l → l < nL G → ld m 103 (3 * l) = G 1 l ∧ ld m 103 (3 * l + 1) = G 2 l ∧ ld m 103 (3 * l + 2) = G 3 l) ∧
  (∀ n l, 0 ≤ n → n < nN G → 0 ≤ l → l < 4 → ld m 104 (4 * n + l) = tT G n l) ∧
  (∀ p, 0 ≤ p → p < nP G → ld m 105 p = G 5 p) ∧
  (∀ d, 0 ≤ d → d < nD G → ld m 107 d = G 6 d ∧ ld m 108 d = G 7 d) ∧
  (∀ d k, 0 ≤ d → d < nD G → G 6 d ≤ k → k < G 7 d → ld m 109 k = rtk (G 8 k)) ∧ ld m 78 40 = z ∧
  ∀ t i, 0 ≤ t → t < 4 → 0 ≤ i → i < G 0 t → nmR (ldl m 102 (6 * t + i)) (G 9 (6 * t + i))
def FHr (m m' : xm) : Prop := ∀ a k, ¬ (a = 78 ∧ (2 ≤ k ∧ k ≤ 6 ∨ k = 30 ∨ k = 40 ∨ k = 42 ∨ k = 84 ∨ k = 86 ∨ k = 87 ∨ k = 88)) → ¬ (a = 101 ∧ k < 4) → ¬ (a = 102 ∧ k < 24) → ¬ (a = 103 ∧ k < 12) → ¬ (a = 104 ∧ k < 24) → ¬ (a = 105 ∧ k < 5) → ¬ (a = 106 ∧ k < 1) → ¬ (a = 107 ∧ k < 6) → ¬ (a = 108 ∧ k < 6) → ¬ (a = 109 ∧ k < 1600) → a ≠ 138 → a ≠ 139 → m' a k = m a k
theorem FHr_trans {m1 m2 m3 : xm} (h1 : FHr m1 m2) (h2 : FHr m2 m3) : FHr m1 m3 := fun a k g1 g2 g3 g4 g5 g6 g7 g8 g9 g10 g11 g12 => by rw [h2 a k g1 g2 g3 g4 g5 g6 g7 g8 g9 g10 g11 g12, h1 a k g1 g2 g3 g4 g5 g6 g7 g8 g9 g10 g11 g12]
theorem FHr_refl {m : xm} : FHr m m := fun _ _ _ _ _ _ _ _ _ _ _ _ _ _ => rfl
theorem FHr_FN {m m' : xm} (f : FN m m') : FHr m m' := fun a k g1 _ _ _ _ _ _ _ _ _ _ _ => f a k (by omega)
theorem FHr_FQ {m m' : xm} (f : FQ m m') : FHr m m' := fun a k g1 _ _ _ _ _ _ _ _ _ g11 g12 => f a k (by omega) g11 g12
def HRr (B : Int → Int) (n : Int) (m0 : xm) (r : HS) (X : xr) : Prop :=
  (∀ G' z' s', r = .inr (G', z', s') → ∃ m', X = some (0, m') ∧ RS m' B n s' ∧ RHp m' G' z' ∧ FHr m0 m') ∧
  (∀ k q, r = .inl (k, q) → ∃ m', X = some (0, m') ∧ RB m' k q ∧ FHr m0 m')
section RST
variable {B : Int → Int} {n : Int} {s : Int × Int} {m m0 : xm} {G : hv} {z : Int}
theorem HRr_inr {G' : hv} {z' : Int} {s' : Int × Int} (h1 : RS m B n s') (h2 : RHp m G' z') (h3 : FHr m0 m) : HRr B n m0 (.inr (G', z', s')) (some (0, m)) := ⟨fun a b c y => (by cases y; exact ⟨m, rfl, h1, h2, h3⟩), fun k q y => by cases y⟩
theorem HRr_inl {k q : Int} (h1 : RB m k q) (h3 : FHr m0 m) : HRr B n m0 (.inl (k, q)) (some (0, m)) := ⟨fun a b c y => (by cases y), fun k q y => by cases y; exact ⟨m, rfl, h1, h3⟩⟩
theorem RHp_RN (wf : wfG G) (R : RHp m G z) : RN m G := ⟨fun t h1 h2 => ⟨R.1 t h1 h2, wf_cnt wf t h1 h2⟩, R.2.2.2.2.2.2.2.2⟩
theorem RHp_FN {m' : xm} (R : RHp m G z) (f : FN m m') : RHp m' G z := by
  obtain ⟨r1, r2, r3, r4, r5, r6, r7, r8, r9⟩ := R
  refine ⟨fun t a b => ?_, ?_, fun l a b => ?_, fun n l a b c d => ?_, fun p a b => ?_, fun d a b => ?_, fun d k a b c e => ?_, ?_, fun t i a b c d => ?_⟩
  · rw [ldq (f 101 t (by omega))]; exact r1 t a b
  · rw [ldq (f 106 0 (by omega))]; exact r2
  · rw [ldq (f 103 _ (by omega)), ldq (f 103 _ (by omega)), ldq (f 103 _ (by omega))]; exact r3 l a b
  · rw [ldq (f 104 _ (by omega))]; exact r4 n l a b c d
  · rw [ldq (f 105 p (by omega))]; exact r5 p a b
  · rw [ldq (f 107 d (by omega)), ldq (f 108 d (by omega))]; exact r6 d a b
  · rw [ldq (f 109 k (by omega))]; exact r7 d k a b c e
  · rw [ldq (f 78 40 (by omega))]; exact r8
  · rw [ldlq (f 102 _ (by omega))]; exact r9 t i a b c d
theorem mok4 : mok 0 = 4 ∧ mok 1 = 6 ∧ mok 2 = 6 ∧ mok 3 = 5 := ⟨rfl, rfl, rfl, rfl⟩
theorem isW_kind {w : List Nat} (ok : okT n s) (h : isW B n w s = true) : rg (tq B n s) ∨ True := Or.inr trivial
/-- a statement's head: full, or its name -/
theorem head_S (S : RS m B n (nx B n s)) (ok : okT n s) (c : RN m G) {t : Int} (h0 : 0 ≤ t) (h4 : t < 4) (hm : G 0 t ≤ mok t) {K : Int → xm → xr} {E : xm → xr} :
    (∀ L, sNew B n G t s = .inr L → ∃ m', (bnd (r_isFull t (mok t) (tq B n s) m) fun r1 m2 => if w32 r1 = 0 then bnd (r_newName m2) K else E m2) = K (n27 0 L) m' ∧ RS m' B n (nx B n (nx B n s)) ∧ FN m m') ∧
    (∀ k q, sNew B n G t s = .inl (k, q) → ∃ m', RB m' k q ∧ FN m m' ∧ ((bnd (r_isFull t (mok t) (tq B n s) m) fun r1 m2 => if w32 r1 = 0 then bnd (r_newName m2) K else E m2) = E m' ∨ ∃ r, (bnd (r_isFull t (mok t) (tq B n s) m) fun r1 m2 => if w32 r1 = 0 then bnd (r_newName m2) K else E m2) = K r m')) := by
  have T := RT_TB S.1
  have hF := r_isFull_S S c h0 h4 hm (tq_rg (B := B) T ok)
  unfold sNew
  by_cases d : mok t ≤ G 0 t
  · obtain ⟨m1, a1, a2, a3⟩ := hF.1 d
    rw [if_pos d, a1, bnd_some, if_neg (by decide)]
    exact ⟨fun L y => (by cases y), fun k q y => by cases y; exact ⟨m1, a2, FN_FR a3, Or.inl rfl⟩⟩
  · have hN := r_newName_S S c
    rw [if_neg d, hF.2 d, bnd_some, if_pos (show w32 0 = 0 by rfl)]
    constructor
    · intro L e
      obtain ⟨m2, b1, b2, b3⟩ := hN.1 L e
      rw [b1, bnd_some]
      exact ⟨m2, rfl, b2, b3⟩
    · intro k q e
      obtain ⟨r, m2, b1, b2, b3⟩ := hN.2 k q e
      rw [b1, bnd_some]
      exact ⟨m2, b2, b3, Or.inr ⟨r, rfl⟩⟩
theorem lock76_B {k q v2 v4 v5 v6 : Int} (F : RB m k q) : r_lockTold_76 v2 v4 v5 v6 m = some (0, m) := by
  unfold r_lockTold_76
  rw [if_neg (by rw [F.2.1]; exact F.1)]
theorem lockTold_S (S : RS m B n (nx B n s)) (ok : okT n s) (I : GI G z) (R : RHp m G z) : HRr B n m (sLock B n G z s) (r_lockTold (tq B n s) m) := by
  obtain ⟨wf, wD, h7, hz, h5⟩ := I
  have l0 := wf.1.1
  have l4 := wf.1.2.1
  have cN := RHp_RN wf R
  have hd := head_S (t := 0) S ok cN (by decide) (by decide) l4 (E := fun m => some (0, m)) (K := fun r3 m4 => bnd (r_asks 82 m4) fun r5 m6 => bnd (r_number 2 5 m6) fun r7 m8 => bnd (r_asks 83 m8) fun r9 m10 => bnd (r_number 0 (r7 - 1) m10) fun r11 m12 => bnd (r_takes 84 m12) fun r13 m14 => if w32 r13 = 0 then r_lockTold_76 r3 r7 r11 (-1) m14 else bnd (r_number 0 (r7 - 1) m14) fun r15 m16 => r_lockTold_76 r3 r7 r11 r15 m16)
  have eq : r_lockTold (tq B n s) m = bnd (r_isFull 0 (mok 0) (tq B n s) m) fun r1 m2 => if w32 r1 = 0 then bnd (r_newName m2) (fun r3 m4 => bnd (r_asks 82 m4) fun r5 m6 => bnd (r_number 2 5 m6) fun r7 m8 => bnd (r_asks 83 m8) fun r9 m10 => bnd (r_number 0 (r7 - 1) m10) fun r11 m12 => bnd (r_takes 84 m12) fun r13 m14 => if w32 r13 = 0 then r_lockTold_76 r3 r7 r11 (-1) m14 else bnd (r_number 0 (r7 - 1) m14) fun r15 m16 => r_lockTold_76 r3 r7 r11 r15 m16) else some (0, m2) := by
    unfold r_lockTold
    rfl
  rw [eq]
  unfold sLock
  cases e1 : sNew B n G 0 s with
  | inl x =>
    obtain ⟨k, q⟩ := x
    obtain ⟨m1, a2, a3, a4⟩ := hd.2 k q e1
    rcases a4 with a4 | ⟨r, a4⟩
    · rw [a4]
      exact HRr_inl a2 (FHr_FN a3)
    · rw [a4]
      rw [r_asks_B a2, bnd_some, r_number_B a2, bnd_some, r_asks_B a2, bnd_some, r_number_B a2, bnd_some, r_takes_B a2, bnd_some, if_pos (by rfl), lock76_B a2]
      exact HRr_inl a2 (FHr_FN a3)
  | inr L =>
    obtain ⟨m1, a1, a2, a3⟩ := hd.1 L e1
    obtain ⟨nl, nf, -, -, -⟩ := sNew_L ok e1
    have nf : nL G < 4 := nf
    have lr := nmL_rng nl
    rw [a1]
    dsimp only [nlb]
    unfold wdb
    have hW := r_asks_S (a := 82) (by unfold isD; decide) a2
    rw [show rlit 82 = lit 2 from rfl] at hW
    by_cases w2 : isW B n (lit 2) (nx B n (nx B n s)) = false
    · obtain ⟨m2, b1, b2, b3⟩ := hW.2 w2
      rw [if_neg (bF w2), b1, bnd_some, r_number_B b2, bnd_some, r_asks_B b2, bnd_some, r_number_B b2, bnd_some, r_takes_B b2, bnd_some, if_pos (by rfl), lock76_B b2]
      exact HRr_inl b2 (FHr_FN (FN_trans a3 (FN_FR b3)))
    have w2 : isW B n (lit 2) (nx B n (nx B n s)) = true := by simpa using w2
    obtain ⟨m2, b1, b2, b3⟩ := hW.1 w2
    have F2 := FN_trans a3 (FN_FR b3)
    rw [if_pos w2, b1, bnd_some]
    have hU := r_number_S (lo := 2) (hi := 5) b2 ⟨by decide, by decide⟩ ⟨by decide, by decide⟩
    cases e2 : sNum B n 2 5 (nx B n (nx B n (nx B n s))) with
    | inl x =>
      obtain ⟨k, q⟩ := x
      obtain ⟨r, m3, d1, d0, d2, d3⟩ := hU.2 k q e2
      rw [d1, bnd_some, r_asks_B d2, bnd_some, r_number_B d2, bnd_some, r_takes_B d2, bnd_some, if_pos (by rfl), lock76_B d2]
      exact HRr_inl d2 (FHr_FN (FN_trans F2 (FN_FR d3)))
    | inr w =>
      obtain ⟨m3, d1, d2, d3⟩ := hU.1 w e2
      have wr := sNum_rng e2
      have F3 := FN_trans F2 (FN_FR d3)
      rw [d1, bnd_some]
      dsimp only [nub]
      have hW := r_asks_S (a := 83) (by unfold isD; decide) d2
      rw [show rlit 83 = lit 3 from rfl] at hW
      by_cases w3 : isW B n (lit 3) (nx B n (nx B n (nx B n (nx B n s)))) = false
      · obtain ⟨m4, g1, g2, g3⟩ := hW.2 w3
        rw [if_neg (bF w3), g1, bnd_some, r_number_B g2, bnd_some, r_takes_B g2, bnd_some, if_pos (by rfl), lock76_B g2]
        exact HRr_inl g2 (FHr_FN (FN_trans F3 (FN_FR g3)))
      have w3 : isW B n (lit 3) (nx B n (nx B n (nx B n (nx B n s)))) = true := by simpa using w3
      obtain ⟨m4, g1, g2, g3⟩ := hW.1 w3
      have F4 := FN_trans F3 (FN_FR g3)
      rw [if_pos w3, g1, bnd_some]
      have hU := r_number_S (lo := 0) (hi := w - 1) g2 ⟨by decide, by decide⟩ ⟨by omega, by omega⟩
      cases e3 : sNum B n 0 (w - 1) (nx B n (nx B n (nx B n (nx B n (nx B n s))))) with
      | inl x =>
        obtain ⟨k, q⟩ := x
        obtain ⟨r, m5, k1, k0, k2, k3⟩ := hU.2 k q e3
        rw [k1, bnd_some, r_takes_B k2, bnd_some, if_pos (by rfl), lock76_B k2]
        exact HRr_inl k2 (FHr_FN (FN_trans F4 (FN_FR k3)))
      | inr a =>
        obtain ⟨m5, k1, k2, k3⟩ := hU.1 a e3
        have ar := sNum_rng e3
        have F5 := FN_trans F4 (FN_FR k3)
        rw [k1, bnd_some]
        dsimp only
        have fin : ∀ {m6 : xm} {s6 : Int × Int} {j : Int}, RS m6 B n s6 → FN m m6 → -1 ≤ j → j < w → HRr B n m (.inr (aLk G L w a j, z, s6)) (r_lockTold_76 (n27 0 L) w a j m6) := by
          intro m6 s6 j S6 f6 j1 j2
          have R6 := RHp_FN R f6
          obtain ⟨r1, r2, r3, r4, r5, r6, r7, r8, r9⟩ := R6
          have e0 : ld m6 101 0 = nL G := r1 0 (by decide) (by decide)
          have cn := wf_cnt wf
          unfold r_lockTold_76
          rw [if_pos S6.2.2.1, ial_in (by decide) (by rw [al101]; decide), xlt_eq, ial_in (by decide) (by rw [al101]; decide), e0, ias_in (by omega) (by rw [al102]; omega), ias_in (by omega) (by rw [al103]; omega), ias_in (by omega) (by rw [al103]; omega), ias_in (by omega) (by rw [al103]; omega), ial_in (by decide) (by rw [al101]; decide), ias_in (by decide) (by rw [al101]; decide), ld_st_nc (by decide), ld_st_nc (by decide), ld_st_nc (by decide), ld_st_nc (by decide), e0]
          obtain ⟨m7, hm7⟩ : ∃ m7, m7 = st (st (st (st (st m6 102 (nL G) (n27 0 L)) 103 (3 * nL G) w) 103 (3 * nL G + 1) a) 103 (3 * nL G + 2) j) 101 0 (nL G + 1) := ⟨_, rfl⟩
          rw [← hm7]
          have f7 : ∀ b k, ¬ (b = 102 ∧ k = nL G) → ¬ (b = 103 ∧ 3 * nL G ≤ k ∧ k ≤ 3 * nL G + 2) → ¬ (b = 101 ∧ k = 0) → m7 b k = m6 b k := fun b k x1 x2 x3 => by rw [hm7, st_at x3, st_at (by omega), st_at (by omega), st_at (by omega), st_at x1]
          refine HRr_inr (RS_cg S6 (fun b k x => f7 b k (by omega) (by omega) (by omega))) ⟨fun t x1 x2 => ?_, ?_, fun l x1 x2 => ?_, fun nn l x1 x2 x3 x4 => ?_, fun p x1 x2 => ?_, fun d x1 x2 => ?_, fun d k x1 x2 x3 x4 => ?_, ?_, fun t i x1 x2 x3 x4 => ?_⟩ ?_
          · rw [aLk_0]
            by_cases y : t = 0
            · rw [if_pos y, y, hm7, ld_st_eq, w32_id (by omega) (by omega)]
            · rw [if_neg y, ldq (f7 101 t (by omega) (by omega) (by omega))]; exact r1 t x1 x2
          · unfold ru
            rw [aLk_0, if_neg (by decide), ldq (f7 106 0 (by omega) (by omega) (by omega))]; exact r2
          · rw [aLk_nL] at x2
            rw [aLk_1, aLk_2, aLk_3]
            by_cases y : l = nL G
            · subst y
              rw [if_pos rfl, if_pos rfl, if_pos rfl, hm7]
              refine ⟨?_, ?_, ?_⟩
              · rw [ld_st_nc (by decide), ld_st_ne (by omega), ld_st_ne (by omega), ld_st_eq, w32_id (by omega) (by omega)]
              · rw [ld_st_nc (by decide), ld_st_ne (by omega), ld_st_eq, w32_id (by omega) (by omega)]
              · rw [ld_st_nc (by decide), ld_st_eq, w32_id (by omega) (by omega)]
            · rw [if_neg y, if_neg y, if_neg y, ldq (f7 103 _ (by omega) (by omega) (by omega)), ldq (f7 103 _ (by omega) (by omega) (by omega)), ldq (f7 103 _ (by omega) (by omega) (by omega))]
              exact r3 l x1 (by omega)
          · unfold nN at x2
            rw [aLk_0, if_neg (by decide)] at x2
            have := r4 nn l x1 x2 x3 x4
            unfold tT at *
            rw [aLk_x (by decide), ldq (f7 104 _ (by omega) (by omega) (by omega))]
            exact this
          · unfold nP at x2
            rw [aLk_0, if_neg (by decide)] at x2
            rw [aLk_x (by decide), ldq (f7 105 p (by omega) (by omega) (by omega))]
            exact r5 p x1 x2
          · unfold nD at x2
            rw [aLk_0, if_neg (by decide)] at x2
            rw [aLk_x (by decide), aLk_x (by decide), ldq (f7 107 d (by omega) (by omega) (by omega)), ldq (f7 108 d (by omega) (by omega) (by omega))]
            exact r6 d x1 x2
          · unfold nD at x2
            rw [aLk_0, if_neg (by decide)] at x2
            rw [aLk_x (by decide)] at x3 x4
            rw [aLk_x (by decide), ldq (f7 109 k (by omega) (by omega) (by omega))]
            exact r7 d k x1 x2 x3 x4
          · rw [ldq (f7 78 40 (by omega) (by omega) (by omega))]; exact r8
          · have ct := cn t x1 x2
            rw [aLk_0] at x4
            rw [aLk_9]
            by_cases y : 6 * t + i = nL G
            · rw [if_pos y, y, hm7, ldl_st_nc (by decide), ldl_st_nc (by decide), ldl_st_nc (by decide), ldl_st_nc (by decide), ldl_st_eq, w64_id (by omega) (by omega)]
              exact ⟨L, nl, rfl, rfl⟩
            · have : i < G 0 t := by
                by_cases x : t = 0
                · rw [if_pos x] at x4
                  subst x
                  unfold nL at *
                  omega
                · rw [if_neg x] at x4
                  exact x4
              rw [if_neg y, ldlq (f7 102 _ (by omega) (by omega) (by omega))]
              exact r9 t i x1 x2 x3 this
          · exact fun b k x1 x2 x3 x4 x5 x6 x7 x8 x9 x10 x11 x12 => by rw [f7 b k (by omega) (by omega) (by omega), f6 b k (by omega)]
        have hT := r_takes_S (a := 84) (by unfold isD; decide) k2
        rw [show rlit 84 = lit 4 from rfl] at hT
        by_cases w4 : isW B n (lit 4) (nx B n (nx B n (nx B n (nx B n (nx B n (nx B n s)))))) = true
        · obtain ⟨m6, y1, y2, y3⟩ := hT.1 w4
          have F6 := FN_trans F5 (FN_FR y3)
          rw [if_pos w4, y1, bnd_some, if_neg (by decide)]
          have hU := r_number_S (lo := 0) (hi := w - 1) y2 ⟨by decide, by decide⟩ ⟨by omega, by omega⟩
          cases e4 : sNum B n 0 (w - 1) (nx B n (nx B n (nx B n (nx B n (nx B n (nx B n (nx B n s))))))) with
          | inl x =>
            obtain ⟨k, q⟩ := x
            obtain ⟨r, m7, x1, x0, x2, x3⟩ := hU.2 k q e4
            rw [x1, bnd_some, lock76_B x2]
            exact HRr_inl x2 (FHr_FN (FN_trans F6 (FN_FR x3)))
          | inr j =>
            obtain ⟨m7, x1, x2, x3⟩ := hU.1 j e4
            have jr := sNum_rng e4
            rw [x1, bnd_some]
            exact fin x2 (FN_trans F6 (FN_FR x3)) (by omega) (by omega)
        · obtain ⟨m6, y1, y2, y3, y4⟩ := hT.2 (by simpa using w4)
          rw [if_neg w4, y1, bnd_some, if_pos (show w32 0 = 0 by rfl)]
          exact fin y2 (FN_trans F5 (FN_FR y4)) (by decide) (by omega)
end RST
