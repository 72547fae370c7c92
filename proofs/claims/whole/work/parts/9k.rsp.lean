/-! the reference's statements: players, doors, rust -/
section RSP
variable {B : Int → Int} {n : Int} {s : Int × Int} {m m0 : xm} {G : hv} {z : Int}
theorem RHp_cg {m' : xm} (R : RHp m G z) (e : ∀ a k, (101 ≤ a ∧ a ≤ 109 ∨ a = 78 ∧ k = 40) → m' a k = m a k) : RHp m' G z := by
  obtain ⟨r1, r2, r3, r4, r5, r6, r7, r8, r9⟩ := R
  refine ⟨fun t a b => ?_, ?_, fun l a b => ?_, fun n' l' a b c d => ?_, fun p a b => ?_, fun d a b => ?_, fun d k a b c y => ?_, ?_, fun t i a b c d => ?_⟩
  · rw [ldq (e 101 t (by omega))]; exact r1 t a b
  · rw [ldq (e 106 0 (by omega))]; exact r2
  · rw [ldq (e 103 _ (by omega)), ldq (e 103 _ (by omega)), ldq (e 103 _ (by omega))]; exact r3 l a b
  · rw [ldq (e 104 _ (by omega))]; exact r4 n' l' a b c d
  · rw [ldq (e 105 p (by omega))]; exact r5 p a b
  · rw [ldq (e 107 d (by omega)), ldq (e 108 d (by omega))]; exact r6 d a b
  · rw [ldq (e 109 k (by omega))]; exact r7 d k a b c y
  · rw [ldq (e 78 40 (by omega))]; exact r8
  · rw [ldlq (e 102 _ (by omega))]; exact r9 t i a b c d
def pyG (G0 : hv) (L : List Int) (G : hv) : Prop := ∀ a k, ¬ (a = 5 ∧ k = nP G0) → G a k = aNm G0 3 L a k
theorem play80_B {v2 v4 k q : Int} (F : RB m k q) : r_playerTold_80 v2 v4 m = some (0, m) := by
  unfold r_playerTold_80
  rw [if_neg (by rw [F.2.1]; exact F.1)]
theorem playR_loop {G0 : hv} {L : List Int} (wf0 : wfG G0) (nf : nP G0 < 5) (nl : nmL L) : ∀ (f : Nat) {G : hv} {u : Int} {s : Int × Int} {g : Nat} {m : xm}, RS m B n s → RHp m G0 z → pyG G0 L G → 0 ≤ u → u < 2 ^ (nN G0).toNat → (nN G0 - bc u).toNat < f → (nN G0 - bc u).toNat + 2 < g → FHr m0 m → HRr B n m0 (sPl B n z (nP G0) f G u s) (r_playerTold_30 g (n27 0 L) u 1 m)
  | 0, _, _, _, _, _, _, _, _, _, _, hf, _, _ => by omega
  | f + 1, G, u, s, g, m, S, R, tn, u0, u1, hf, hg, hF => by
    have l0 := wf0.2.1.1
    have l6 := wf0.2.1.2
    have n0 := wf0.2.2.2.1
    have p6 := p2_64 (n := nN G0) (by omega)
    have b6 := bc_rng (j := u)
    have bl := bits_le l0 (by omega) u0 u1
    have lr := nmL_rng nl
    have cN := RHp_RN wf0 R
    have e00 : G 0 1 = G0 0 1 := by rw [tn 0 1 (by omega), aNm_0, if_neg (by decide)]
    have fe : ∀ x, fnd G 1 x = fnd G0 1 x := fun x => fnd_cg e00 (fun i a b => by
      have := wf_cnt wf0 1 (by decide) (by decide)
      rw [tn 9 _ (by omega), aNm_9, if_neg (by unfold nP at n0; omega)])
    obtain ⟨g, rfl⟩ : ∃ g', g = g' + 1 := ⟨g - 1, by omega⟩
    have hO := r_oneOf_S S cN (t := 1) (st := u) (by decide) (by decide) u0 (by omega)
    rw [r_playerTold_30, if_pos S.2.2.1, if_neg (by decide)]
    unfold sPl
    rw [sOne_cg fe]
    cases e1 : sOne B n G0 1 u s with
    | inl x =>
      obtain ⟨k, q⟩ := x
      obtain ⟨m1, a1, a2, a3⟩ := hO.2 k q e1
      rw [a1, bnd_some, if_neg (by rw [a2.2.1]; exact a2.1)]
      exact HRr_inl a2 (FHr_trans hF (FHr_FN a3))
    | inr l =>
      obtain ⟨m1, a1, a2, a3⟩ := hO.1 l e1
      have lk := sOne_k (t := 1) l0 e1
      have lk2 : l < nN G0 := lk.2.1
      have bn := bits_new l0 (by omega) u0 u1 lk.1 lk2 lk.2.2
      have bs := bor_sb u0 (show u < 64 by omega) lk.1 (show l < 6 by omega)
      obtain ⟨m4, d1, d2, d3, d4⟩ := r_look_S a2
      have f4 : FN m m4 := FN_trans a3 (FN_FR d4)
      have R4 := RHp_FN R f4
      have F4 : FHr m0 m4 := FHr_trans hF (FHr_FN f4)
      have tn4 : pyG G0 L (aPy G (nP G0) (sb u l)) := fun a k x => by unfold aPy; rw [st_at x, tn a k x]
      rw [a1, bnd_some, if_pos a2.2.2.1, xlt_eq, bs, d1, bnd_some, r_isLetter_ok (see_rg (RT_TB a2.1) a2.2.1), bnd_some]
      dsimp only [nub]
      by_cases lt : ltr (see B n (tq B n (nx B n s))) = true
      · rw [if_pos lt, if_pos lt]
        exact playR_loop wf0 nf nl f (G := aPy G (nP G0) (sb u l)) (u := sb u l) (g := g) (m := m4) d2 R4 tn4 bn.1 bn.2.1 (by rw [bn.2.2.1]; omega) (by rw [bn.2.2.1]; omega) F4
      · rw [if_neg lt, if_neg lt]
        obtain ⟨g, rfl⟩ : ∃ g', g = g' + 1 := ⟨g - 1, by omega⟩
        obtain ⟨r1, r2, r3, r4, r5, r6, r7, r8, r9⟩ := R4
        have e1' : ld m4 101 3 = nP G0 := r1 3 (by decide) (by decide)
        obtain ⟨m5, hm5⟩ : ∃ m5, m5 = st (st (st m4 102 (18 + nP G0) (n27 0 L)) 105 (nP G0) (sb u l)) 101 3 (nP G0 + 1) := ⟨_, rfl⟩
        have f5 : ∀ a k, ¬ (a = 102 ∧ k = 18 + nP G0) → ¬ (a = 105 ∧ k = nP G0) → ¬ (a = 101 ∧ k = 3) → m5 a k = m4 a k := fun a k x1 x2 x3 => by rw [hm5, st_at x3, st_at x2, st_at x1]
        have cn := wf_cnt wf0
        obtain ⟨G', hG'⟩ : ∃ G', G' = aPy G (nP G0) (sb u l) := ⟨_, rfl⟩
        have g5 : G' 5 (nP G0) = sb u l := by rw [hG']; unfold aPy; rw [st_eq]
        rw [← hG'] at tn4 ⊢
        have g0 : ∀ t, G' 0 t = if t = 3 then G0 0 3 + 1 else G0 0 t := fun t => by rw [tn4 0 t (by omega), aNm_0]
        have gx : ∀ (a : Nat) (k : Int), a ≠ 0 → a ≠ 5 → a ≠ 9 → G' a k = G0 a k := fun a k x1 x2 x3 => by rw [tn4 a k (by omega), aNm_x x1 x3]
        rw [r_playerTold_30, if_pos d2.2.2.1, if_pos (by rfl)]
        unfold r_playerTold_80
        rw [if_pos d2.2.2.1, ial_in (by decide) (by rw [al101]; decide), e1', ias_in (by omega) (by rw [al102]; omega), ial_in (by decide) (by rw [al101]; decide), ld_st_nc (by decide), e1', ias_in (by omega) (by rw [al105]; omega), ial_in (by decide) (by rw [al101]; decide), ld_st_nc (by decide), ld_st_nc (by decide), e1', ias_in (by decide) (by rw [al101]; decide), ← hm5]
        refine HRr_inr (RS_cg d2 (fun a k x => f5 a k (by omega) (by omega) (by omega))) ⟨fun t a b => ?_, ?_, fun l a b => ?_, fun n' l' a b c d => ?_, fun p a b => ?_, fun d a b => ?_, fun d k a b c e => ?_, ?_, fun t i a b c d => ?_⟩ (FHr_trans F4 (fun a k _ x2 x3 _ _ x6 _ _ _ _ _ _ => f5 a k (by omega) (by omega) (by omega)))
        · rw [g0]
          by_cases y : t = 3
          · rw [if_pos y, y, hm5, ld_st_eq, w32_id (by omega) (by omega)]; rfl
          · rw [if_neg y, ldq (f5 101 t (by omega) (by omega) (by omega))]; exact r1 t a b
        · unfold ru
          rw [g0, if_neg (by decide), ldq (f5 106 0 (by omega) (by omega) (by omega))]; exact r2
        · unfold nL at b
          rw [g0, if_neg (by decide)] at b
          rw [gx 1 l (by decide) (by decide) (by decide), gx 2 l (by decide) (by decide) (by decide), gx 3 l (by decide) (by decide) (by decide), ldq (f5 103 _ (by omega) (by omega) (by omega)), ldq (f5 103 _ (by omega) (by omega) (by omega)), ldq (f5 103 _ (by omega) (by omega) (by omega))]; exact r3 l a b
        · unfold nN at b
          rw [g0, if_neg (by decide)] at b
          have := r4 n' l' a b c d
          unfold tT at *
          rw [gx 4 _ (by decide) (by decide) (by decide), ldq (f5 104 _ (by omega) (by omega) (by omega))]; exact this
        · unfold nP at b
          rw [g0, if_pos rfl] at b
          by_cases y : p = nP G0
          · rw [y, g5, hm5, ld_st_nc (by decide), ld_st_eq, w32_id (by omega) (by omega)]
          · rw [tn4 5 p (by omega), aNm_x (by decide) (by decide), ldq (f5 105 p (by omega) (by omega) (by omega))]; exact r5 p a (by unfold nP at *; omega)
        · unfold nD at b
          rw [g0, if_neg (by decide)] at b
          rw [gx 6 d (by decide) (by decide) (by decide), gx 7 d (by decide) (by decide) (by decide), ldq (f5 107 d (by omega) (by omega) (by omega)), ldq (f5 108 d (by omega) (by omega) (by omega))]; exact r6 d a b
        · unfold nD at b
          rw [g0, if_neg (by decide)] at b
          rw [gx 6 d (by decide) (by decide) (by decide)] at c
          rw [gx 7 d (by decide) (by decide) (by decide)] at e
          rw [gx 8 k (by decide) (by decide) (by decide), ldq (f5 109 k (by omega) (by omega) (by omega))]; exact r7 d k a b c e
        · rw [ldq (f5 78 40 (by omega) (by omega) (by omega))]; exact r8
        · have ct := cn t a b
          rw [g0] at d
          rw [tn4 9 _ (by omega), aNm_9]
          have n1 : G0 0 3 = nP G0 := rfl
          by_cases y : 6 * t + i = 6 * 3 + G0 0 3
          · rw [if_pos y, y, hm5, ldl_st_nc (by decide), ldl_st_nc (by decide), show 6 * 3 + G0 0 3 = 18 + nP G0 by omega, ldl_st_eq, w64_id (by omega) (by omega)]
            exact ⟨L, nl, rfl, rfl⟩
          · have : i < G0 0 t := by
              by_cases x : t = 3
              · rw [if_pos x] at d
                subst x
                omega
              · rw [if_neg x] at d
                exact d
            rw [if_neg y, ldlq (f5 102 _ (by omega) (by omega) (by omega))]
            exact r9 t i a b c this
theorem playerTold_S (S : RS m B n (nx B n s)) (ok : okT n s) (I : GI G z) (R : RHp m G z) : HRr B n m (sPlayer B n G z s) (r_playerTold (tq B n s) m) := by
  obtain ⟨wf, wD, h7, hz, h5⟩ := I
  have n0 := wf.2.2.2.1
  have cN := RHp_RN wf R
  have hd := head_S (t := 3) S ok cN (by decide) (by decide) n0.2 (E := fun m => some (0, m)) (K := fun r3 m4 => bnd (r_asks 90 m4) fun r5 m6 => r_playerTold_30 xLF r3 0 1 m6)
  have eq : r_playerTold (tq B n s) m = bnd (r_isFull 3 (mok 3) (tq B n s) m) fun r1 m2 => if w32 r1 = 0 then bnd (r_newName m2) (fun r3 m4 => bnd (r_asks 90 m4) fun r5 m6 => r_playerTold_30 xLF r3 0 1 m6) else some (0, m2) := by
    unfold r_playerTold
    rfl
  have bad : ∀ {m' : xm} {k q r : Int}, RB m' k q → FN m m' → HRr B n m (.inl (k, q)) (r_playerTold_30 xLF r 0 1 m') := by
    intro m' k q r F f
    rw [xLF_eq, r_playerTold_30, if_neg (by rw [F.2.1]; exact F.1), play80_B F]
    exact HRr_inl F (FHr_FN f)
  rw [eq]
  unfold sPlayer
  cases e1 : sNew B n G 3 s with
  | inl x =>
    obtain ⟨k, q⟩ := x
    obtain ⟨m1, a2, a3, a4⟩ := hd.2 k q e1
    rcases a4 with a4 | ⟨r, a4⟩
    · rw [a4]
      exact HRr_inl a2 (FHr_FN a3)
    · rw [a4, r_asks_B a2, bnd_some]
      exact bad a2 a3
  | inr L =>
    obtain ⟨m1, a1, a2, a3⟩ := hd.1 L e1
    obtain ⟨nl, nf, -, -, -⟩ := sNew_L ok e1
    have nf : nP G < 5 := nf
    rw [a1]
    dsimp only [nlb]
    unfold wdb
    have hW := r_asks_S (a := 90) (by unfold isD; decide) a2
    rw [show rlit 90 = lit 23 from rfl] at hW
    by_cases w2 : isW B n (lit 23) (nx B n (nx B n s)) = false
    · obtain ⟨m2, b1, b2, b3⟩ := hW.2 w2
      rw [if_neg (bF w2), b1, bnd_some]
      exact bad b2 (FN_trans a3 (FN_FR b3))
    have w2 : isW B n (lit 23) (nx B n (nx B n s)) = true := by simpa using w2
    obtain ⟨m2, b1, b2, b3⟩ := hW.1 w2
    have F2 := FN_trans a3 (FN_FR b3)
    have l6 := wf.2.1
    have b0 : bc 0 = 0 := by decide
    rw [if_pos w2, b1, bnd_some]
    exact playR_loop wf nf nl 10 (G := aNm G 3 L) (u := 0) (g := xLF) (m := m2) b2 (RHp_FN R F2) (fun _ _ _ => rfl) (by decide) (Int.pow_pos (by decide)) (by rw [b0]; omega) (by rw [b0, xLF_eq]; omega) (FHr_FN F2)
/-- the codes of a door are laid by -/
theorem door103 {C : List Int} {v4 z : Int} (hz0 : 0 ≤ z) (hz : z + (C.length : Int) ≤ 1600) : ∀ (r : Nat) {g i : Nat} {m : xm}, i + r = C.length → ld m 78 84 = (C.length : Int) → cdl m 138 (C.map rtk) → ld m 78 40 = z + (i : Int) → r < g → ∃ m', r_doorTold_103 g v4 (i : Int) m = r_doorTold_144 v4 m' ∧ ld m' 78 40 = z + (C.length : Int) ∧ (∀ k, z + (i : Int) ≤ k → k < z + (C.length : Int) → ld m' 109 k = rtk (C.getD (k - z).toNat 0)) ∧ ∀ a k, ¬ (a = 78 ∧ k = 40) → ¬ (a = 109 ∧ z + (i : Int) ≤ k ∧ k < z + (C.length : Int)) → m' a k = m a k
  | 0, g, i, m, hi, h84, hc, h40, hg => by
    obtain ⟨g, rfl⟩ : ∃ g', g = g' + 1 := ⟨g - 1, by omega⟩
    rw [r_doorTold_103, h84, w32_id (by omega) (by omega), if_pos (by omega)]
    exact ⟨m, rfl, by rw [h40]; omega, fun k a b => by omega, fun _ _ _ _ => rfl⟩
  | r + 1, g, i, m, hi, h84, hc, h40, hg => by
    obtain ⟨g, rfl⟩ : ∃ g', g = g' + 1 := ⟨g - 1, by omega⟩
    have ci := hc i (by rw [List.length_map]; omega)
    have cg : (C.map rtk).getD i 0 = rtk (C.getD i 0) := by
      rw [List.getD_eq_getElem?_getD, List.getElem?_map, List.getElem?_eq_getElem (show i < C.length by omega), List.getD_eq_getElem?_getD, List.getElem?_eq_getElem (show i < C.length by omega)]
      rfl
    have rr : rg (rtk (C.getD i 0)) := by rw [← cg, ← ci]; exact ld_rg _ _ _
    obtain ⟨m', a1, a2, a3, a4⟩ := door103 (v4 := v4) hz0 hz r (g := g) (i := i + 1) (m := st (st m 109 (z + (i : Int)) (rtk (C.getD i 0))) 78 40 (z + (i : Int) + 1)) (by omega) (by rw [ld_st_ne (by decide), ld_st_nc (by decide), h84]) (cdl_cg hc (fun j _ => by rw [st_at (by omega), st_at (by omega)])) (by rw [ld_st_eq, w32_id (by omega) (by omega)]; omega) (by omega)
    rw [show ((i + 1 : Nat) : Int) = (i : Int) + 1 by omega] at a1 a3 a4
    rw [r_doorTold_103, h84, w32_id (by omega) (by omega), if_neg (by omega), ial_in (by omega) (by rw [al138]; omega), ci, cg, h40, ias_in (by omega) (by rw [al109]; omega), stf_eq, ld_st_nc (by decide), h40, a1]
    refine ⟨m', rfl, a2, fun k x1 x2 => ?_, fun a k x1 x2 => by rw [a4 a k x1 (by omega), st_at (by omega), st_at (by omega)]⟩
    by_cases y : k = z + (i : Int)
    · rw [y, ldq (a4 109 _ (by omega) (by omega)), ld_st_nc (by decide), ld_st_eq, w32_rg rr, show (z + (i : Int) - z).toNat = i by omega]
    · exact a3 k (by omega) x2
theorem doorTold_S (S : RS m B n (nx B n s)) (ok : okT n s) (I : GI G z) (R : RHp m G z) (hzs : z ≤ s.1) : HRr B n m (sDoor B n G z s) (r_doorTold (tq B n s) m) := by
  obtain ⟨wf, wD, h7, hz, h5⟩ := I
  have n0 := wf.2.2.1
  have cN := RHp_RN wf R
  have n16 := S.1.2.2.1
  have hd := head_S (t := 2) S ok cN (by decide) (by decide) n0.2 (E := fun m => some (0, m)) (K := fun r3 m4 => bnd (r_asks 88 m4) fun r5 m6 => if ld m6 78 5 = 0 then stf m6 78 42 1 fun m7 => stf m7 78 84 0 fun m8 => stf m8 78 86 0 fun m9 => stf m9 78 87 0 fun m10 => stf m10 78 88 0 fun m11 => bnd (r_qTest m11) fun r12 m13 => if ld m13 78 5 = 0 then ial m13 101 2 fun x14 => xlt x14 fun x15 => ias m13 102 (12 + x15) r3 fun m16 => ias m16 107 x15 (ld m16 78 40) fun m17 => r_doorTold_103 xLF x15 0 m17 else some (0, m13) else some (0, m6))
  have eq : r_doorTold (tq B n s) m = bnd (r_isFull 2 (mok 2) (tq B n s) m) fun r1 m2 => if w32 r1 = 0 then bnd (r_newName m2) (fun r3 m4 => bnd (r_asks 88 m4) fun r5 m6 => if ld m6 78 5 = 0 then stf m6 78 42 1 fun m7 => stf m7 78 84 0 fun m8 => stf m8 78 86 0 fun m9 => stf m9 78 87 0 fun m10 => stf m10 78 88 0 fun m11 => bnd (r_qTest m11) fun r12 m13 => if ld m13 78 5 = 0 then ial m13 101 2 fun x14 => xlt x14 fun x15 => ias m13 102 (12 + x15) r3 fun m16 => ias m16 107 x15 (ld m16 78 40) fun m17 => r_doorTold_103 xLF x15 0 m17 else some (0, m13) else some (0, m6)) else some (0, m2) := by
    unfold r_doorTold
    rfl
  rw [eq]
  unfold sDoor
  cases e1 : sNew B n G 2 s with
  | inl x =>
    obtain ⟨k, q⟩ := x
    obtain ⟨m1, a2, a3, a4⟩ := hd.2 k q e1
    rcases a4 with a4 | ⟨r, a4⟩
    · rw [a4]
      exact HRr_inl a2 (FHr_FN a3)
    · rw [a4, r_asks_B a2, bnd_some, if_neg (by rw [a2.2.1]; exact a2.1)]
      exact HRr_inl a2 (FHr_FN a3)
  | inr L =>
    obtain ⟨m1, a1, a2, a3⟩ := hd.1 L e1
    obtain ⟨nl, nf, -, -, -⟩ := sNew_L ok e1
    have nf : nD G < 6 := nf
    have lr := nmL_rng nl
    rw [a1]
    dsimp only [nlb]
    unfold wdb
    have hW := r_asks_S (a := 88) (by unfold isD; decide) a2
    rw [show rlit 88 = lit 8 from rfl] at hW
    by_cases w2 : isW B n (lit 8) (nx B n (nx B n s)) = false
    · obtain ⟨m2, b1, b2, b3⟩ := hW.2 w2
      rw [if_neg (bF w2), b1, bnd_some, if_neg (by rw [b2.2.1]; exact b2.1)]
      exact HRr_inl b2 (FHr_FN (FN_trans a3 (FN_FR b3)))
    have w2 : isW B n (lit 8) (nx B n (nx B n s)) = true := by simpa using w2
    obtain ⟨m2, b1, b2, b3⟩ := hW.1 w2
    have F2 := FN_trans a3 (FN_FR b3)
    have g3 : s.1 ≤ (nx B n (nx B n (nx B n s))).1 := by
      have o1 := okT_nx (B := B) ok
      have o2 := okT_nx (B := B) o1
      have := nx_ge (B := B) ok
      have := nx_ge (B := B) o1
      have := nx_ge (B := B) o2
      omega
    obtain ⟨m3, hm3⟩ : ∃ m3, m3 = st (st (st (st (st m2 78 42 1) 78 84 0) 78 86 0) 78 87 0) 78 88 0 := ⟨_, rfl⟩
    have f3 : ∀ a k, ¬ (a = 78 ∧ (k = 42 ∨ k = 84 ∨ k = 86 ∨ k = 87 ∨ k = 88)) → m3 a k = m2 a k := fun a k x => by rw [hm3, st_at (by omega), st_at (by omega), st_at (by omega), st_at (by omega), st_at (by omega)]
    have Q3 : QS m3 B n false (nx B n (nx B n (nx B n s))) [] [] 0 0 := by
      refine ⟨RS_cg b2 (fun a k x => f3 a k (by omega)), ⟨?_, trivial⟩, ⟨?_, fun i hi => by cases hi⟩, ?_, ?_, ?_⟩
      · rw [hm3, ld_st_ne (by decide), ld_st_ne (by decide), ld_st_eq]; rfl
      · rw [hm3, ld_st_ne (by decide), ld_st_ne (by decide), ld_st_ne (by decide), ld_st_eq]; rfl
      · rw [hm3, ld_st_ne (by decide), ld_st_eq]; rfl
      · rw [hm3, ld_st_eq]; rfl
      · rw [hm3, ld_st_ne (by decide), ld_st_ne (by decide), ld_st_ne (by decide), ld_st_ne (by decide), ld_st_eq]; rfl
    obtain ⟨m4, d1, d2, d3, d4⟩ := r_qTest_S (f := 100) Q3 (by decide)
    have F4 : FHr m m4 := fun a k x1 x2 x3 x4 x5 x6 x7 x8 x9 x10 x11 x12 => by rw [d4 a k (by omega) x11 x12, f3 a k (by omega), F2 a k (by omega)]
    rw [if_pos w2, b1, bnd_some, if_pos b2.2.2.1, stf_eq, stf_eq, stf_eq, stf_eq, stf_eq, ← hm3, d1, bnd_some]
    cases e2 : sp B n false 100 0 0 0 (nx B n (nx B n (nx B n s))) with
    | inl x =>
      obtain ⟨k, q⟩ := x
      have F := d3 k q e2
      rw [if_neg (by rw [F.2.1]; exact F.1)]
      exact HRr_inl F F4
    | inr x =>
      obtain ⟨s', C⟩ := x
      have Q4 := d2 s' C e2
      have gg := sp_gd 100 0 b2.2.1 (by decide) (by decide) (tA (by decide) (by decide)) s' C e2
      have o3 := gg.1.2.1
      have R4 : RHp m4 G z := RHp_cg R (fun a k x => by rw [d4 a k (by omega) (by omega) (by omega), f3 a k (by omega), F2 a k (by omega)])
      obtain ⟨r1, r2, r3, r4, r5, r6, r7, r8, r9⟩ := R4
      have e1' : ld m4 101 2 = nD G := r1 2 (by decide) (by decide)
      obtain ⟨m5, hm5⟩ : ∃ m5, m5 = st (st m4 102 (12 + nD G) (n27 0 L)) 107 (nD G) z := ⟨_, rfl⟩
      have f5 : ∀ a k, ¬ (a = 102 ∧ k = 12 + nD G) → ¬ (a = 107 ∧ k = nD G) → m5 a k = m4 a k := fun a k x1 x2 => by rw [hm5, st_at x2, st_at x1]
      obtain ⟨m6, k1, k2, k3, k4⟩ := door103 (C := C) (v4 := nD G) (z := z) hz.1 (by omega) C.length (g := xLF) (i := 0) (m := m5) (by omega) (by rw [ldq (f5 78 84 (by omega) (by omega))]; exact Q4.2.2.1.1) (cdl_cg Q4.2.2.1.2 (fun j _ => f5 138 j (by omega) (by omega))) (by rw [ldq (f5 78 40 (by omega) (by omega)), r8]; omega) (by rw [xLF_eq]; omega)
      rw [show ((0 : Nat) : Int) = 0 from rfl] at k1 k3 k4
      rw [Int.add_zero] at k3 k4
      obtain ⟨m7, hm7⟩ : ∃ m7, m7 = st (st m6 108 (nD G) (z + (C.length : Int))) 101 2 (nD G + 1) := ⟨_, rfl⟩
      have f7 : ∀ a k, ¬ (a = 108 ∧ k = nD G) → ¬ (a = 101 ∧ k = 2) → m7 a k = m6 a k := fun a k x1 x2 => by rw [hm7, st_at x2, st_at x1]
      have f74 : ∀ a k, ¬ (a = 108 ∧ k = nD G) → ¬ (a = 101 ∧ k = 2) → ¬ (a = 102 ∧ k = 12 + nD G) → ¬ (a = 107 ∧ k = nD G) → ¬ (a = 78 ∧ k = 40) → ¬ (a = 109 ∧ z ≤ k ∧ k < z + (C.length : Int)) → m7 a k = m4 a k := fun a k x1 x2 x3 x4 x5 x6 => by rw [f7 a k x1 x2, k4 a k x5 x6, f5 a k x3 x4]
      have e6 : ld m6 101 2 = nD G := by rw [ldq (k4 101 2 (by omega) (by omega)), ldq (f5 101 2 (by omega) (by omega)), e1']
      rw [if_pos Q4.1.2.2.1, ial_in (by decide) (by rw [al101]; decide), e1', xlt_eq, ias_in (by omega) (by rw [al102]; omega), ias_in (by omega) (by rw [al107]; omega), ld_st_nc (by decide), r8, ← hm5, k1]
      unfold r_doorTold_144
      rw [ias_in (by omega) (by rw [al108]; omega), k2, ial_in (by decide) (by rw [al101]; decide), ld_st_nc (by decide), e6, ias_in (by decide) (by rw [al101]; decide), ← hm7]
      have cn := wf_cnt wf
      refine HRr_inr (RS_cg Q4.1 (fun a k x => f74 a k (by omega) (by omega) (by omega) (by omega) (by omega) (by omega))) ⟨fun t a b => ?_, ?_, fun l a b => ?_, fun n' l' a b c d => ?_, fun p a b => ?_, fun d a b => ?_, fun d k a b c e => ?_, ?_, fun t i a b c d => ?_⟩ (FHr_trans F4 (fun a k x1 x2 x3 _ _ _ _ x8 x9 x10 _ _ => f74 a k (by omega) (by omega) (by omega) (by omega) (by omega) (by omega)))
      · rw [aDr_0]
        by_cases y : t = 2
        · rw [if_pos y, y, hm7, ld_st_eq, w32_id (by omega) (by omega)]; rfl
        · rw [if_neg y, ldq (f74 101 t (by omega) (by omega) (by omega) (by omega) (by omega) (by omega))]; exact r1 t a b
      · unfold ru
        rw [aDr_0, if_neg (by decide), ldq (f74 106 0 (by omega) (by omega) (by omega) (by omega) (by omega) (by omega))]; exact r2
      · unfold nL at b
        rw [aDr_0, if_neg (by decide)] at b
        rw [aDr_x (by decide), aDr_x (by decide), aDr_x (by decide), ldq (f74 103 _ (by omega) (by omega) (by omega) (by omega) (by omega) (by omega)), ldq (f74 103 _ (by omega) (by omega) (by omega) (by omega) (by omega) (by omega)), ldq (f74 103 _ (by omega) (by omega) (by omega) (by omega) (by omega) (by omega))]; exact r3 l a b
      · unfold nN at b
        rw [aDr_0, if_neg (by decide)] at b
        have := r4 n' l' a b c d
        unfold tT at *
        rw [aDr_x (by decide), ldq (f74 104 _ (by omega) (by omega) (by omega) (by omega) (by omega) (by omega))]; exact this
      · unfold nP at b
        rw [aDr_0, if_neg (by decide)] at b
        rw [aDr_x (by decide), ldq (f74 105 p (by omega) (by omega) (by omega) (by omega) (by omega) (by omega))]; exact r5 p a b
      · have b' : d < nD G + 1 := by unfold nD at *; rw [aDr_0, if_pos rfl] at b; exact b
        rw [aDr_6, aDr_7]
        by_cases y : d = nD G
        · rw [if_pos y, if_pos y, y, ldq (f7 107 _ (by omega) (by omega)), ldq (k4 107 _ (by omega) (by omega)), hm5, ld_st_eq, hm7, ld_st_nc (by decide), ld_st_eq, w32_id (by omega) (by omega), w32_id (by omega) (by omega)]
          exact ⟨rfl, rfl⟩
        · rw [if_neg y, if_neg y, ldq (f74 107 d (by omega) (by omega) (by omega) (by omega) (by omega) (by omega)), ldq (f74 108 d (by omega) (by omega) (by omega) (by omega) (by omega) (by omega))]; exact r6 d a (by omega)
      · have b' : d < nD G + 1 := by unfold nD at *; rw [aDr_0, if_pos rfl] at b; exact b
        rw [aDr_6] at c
        rw [aDr_7] at e
        rw [aDr_8]
        by_cases y : d = nD G
        · rw [if_pos y] at c e
          rw [if_pos ⟨c, e⟩, ldq (f7 109 k (by omega) (by omega))]
          exact k3 k c e
        · rw [if_neg y] at c e
          have q := wD d a (by omega)
          have q7 := h7 d a (by omega)
          rw [if_neg (by omega), ldq (f74 109 k (by omega) (by omega) (by omega) (by omega) (by omega) (by omega))]
          exact r7 d k a (by omega) c e
      · rw [ldq (f7 78 40 (by omega) (by omega)), k2]
      · have ct := cn t a b
        rw [aDr_0] at d
        rw [aDr_9]
        have n1 : G 0 2 = nD G := rfl
        by_cases y : 6 * t + i = 12 + G 0 2
        · rw [if_pos y, y, ldlq (f7 102 _ (by omega) (by omega)), ldlq (k4 102 _ (by omega) (by omega)), hm5, ldl_st_nc (by decide), n1, ldl_st_eq, w64_id (by omega) (by omega)]
          exact ⟨L, nl, rfl, rfl⟩
        · have : i < G 0 t := by
            by_cases x : t = 2
            · rw [if_pos x] at d
              subst x
              omega
            · rw [if_neg x] at d
              exact d
          rw [if_neg y, ldlq (f74 102 _ (by omega) (by omega) (by omega) (by omega) (by omega) (by omega))]
          exact r9 t i a b c this
theorem rustTold_S (S : RS m B n s) (I : GI G z) (R : RHp m G z) : HRr B n m (sRust B n G z s) (bnd (r_asks 91 m) fun r9 m10 => bnd (r_number 0 100 m10) fun r11 m12 => ias m12 106 0 r11 fun m13 => some (0, m13)) := by
  have hW := r_asks_S (a := 91) (by unfold isD; decide) S
  rw [show rlit 91 = lit 24 from rfl] at hW
  have bad : ∀ {m' : xm} {k q v : Int}, RB m' k q → FN m m' → HRr B n m (.inl (k, q)) (ias m' 106 0 v fun m13 => some (0, m13)) := by
    intro m' k q v F f
    rw [ias_in (by decide) (by rw [al106]; decide)]
    exact HRr_inl ⟨F.1, by rw [ld_st_nc (by decide)]; exact F.2.1, by rw [ld_st_nc (by decide)]; exact F.2.2⟩ (fun a k x1 _ _ _ _ _ x7 _ _ _ _ _ => by rw [st_at (by omega), f a k (by omega)])
  unfold sRust wdb
  by_cases w2 : isW B n (lit 24) s = false
  · obtain ⟨m2, b1, b2, b3⟩ := hW.2 w2
    rw [if_neg (bF w2), b1, bnd_some, r_number_B b2, bnd_some]
    exact bad b2 (FN_FR b3)
  have w2 : isW B n (lit 24) s = true := by simpa using w2
  obtain ⟨m2, b1, b2, b3⟩ := hW.1 w2
  have hU := r_number_S (lo := 0) (hi := 100) b2 ⟨by decide, by decide⟩ ⟨by decide, by decide⟩
  rw [if_pos w2, b1, bnd_some]
  cases e2 : sNum B n 0 100 (nx B n s) with
  | inl x =>
    obtain ⟨k, q⟩ := x
    obtain ⟨r, m3, d1, d0, d2, d3⟩ := hU.2 k q e2
    rw [d1, bnd_some]
    exact bad d2 (FN_FR (FR_trans b3 d3))
  | inr v =>
    obtain ⟨m3, d1, d2, d3⟩ := hU.1 v e2
    have vr := sNum_rng e2
    have f3 := FN_FR (FR_trans b3 d3)
    rw [d1, bnd_some, ias_in (by decide) (by rw [al106]; decide)]
    dsimp only [nub]
    obtain ⟨r1, r2, r3, r4, r5, r6, r7, r8, r9⟩ := RHp_FN R f3
    have gx : ∀ (a : Nat) (k : Int), ¬ (a = 0 ∧ k = 4) → st G 0 4 v a k = G a k := fun a k g => st_at g
    refine HRr_inr (RS_cg d2 (fun a k x => st_at (by omega))) ⟨fun t a b => ?_, ?_, fun l a b => ?_, fun n' l' a b c d => ?_, fun p a b => ?_, fun d a b => ?_, fun d k a b c e => ?_, ?_, fun t i a b c d => ?_⟩ (fun a k x1 _ _ _ _ _ x7 _ _ _ _ _ => by rw [st_at (by omega), f3 a k (by omega)])
    · rw [gx 0 t (by omega), ld_st_nc (by decide)]; exact r1 t a b
    · unfold ru
      rw [st_eq, ld_st_eq, w32_id (by omega) (by omega)]
    · unfold nL at b
      rw [gx 0 0 (by omega)] at b
      rw [gx 1 l (by omega), gx 2 l (by omega), gx 3 l (by omega), ld_st_nc (by decide), ld_st_nc (by decide), ld_st_nc (by decide)]; exact r3 l a b
    · unfold nN at b
      rw [gx 0 1 (by omega)] at b
      have := r4 n' l' a b c d
      unfold tT at *
      rw [gx 4 _ (by omega), ld_st_nc (by decide)]; exact this
    · unfold nP at b
      rw [gx 0 3 (by omega)] at b
      rw [gx 5 p (by omega), ld_st_nc (by decide)]; exact r5 p a b
    · unfold nD at b
      rw [gx 0 2 (by omega)] at b
      rw [gx 6 d (by omega), gx 7 d (by omega), ld_st_nc (by decide), ld_st_nc (by decide)]; exact r6 d a b
    · unfold nD at b
      rw [gx 0 2 (by omega)] at b
      rw [gx 6 d (by omega)] at c
      rw [gx 7 d (by omega)] at e
      rw [gx 8 k (by omega), ld_st_nc (by decide)]; exact r7 d k a b c e
    · rw [ld_st_nc (by decide)]; exact r8
    · rw [gx 0 t (by omega)] at d
      rw [gx 9 _ (by omega), ldl_st_nc (by decide)]
      exact r9 t i a b c d
end RSP
