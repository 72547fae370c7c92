/-! the reference's statements: notes, players, doors, rust -/
section RSN
variable {B : Int → Int} {n : Int} {s : Int × Int} {m m0 : xm} {G : hv} {z : Int}
theorem fnd_cg {G G' : hv} {t x : Int} (h0 : G' 0 t = G 0 t) (h9 : ∀ i, 0 ≤ i → i < G 0 t → G' 9 (6 * t + i) = G 9 (6 * t + i)) : fnd G' t x = fnd G t x := by
  unfold fnd
  rw [h0]
  have : ∀ r : Nat, (r : Int) ≤ G 0 t → fnl (fun i => G' 9 (6 * t + i)) (G 0 t) x r = fnl (fun i => G 9 (6 * t + i)) (G 0 t) x r := by
    intro r
    induction r with
    | zero => intro _; rfl
    | succ r ih =>
      intro hr
      unfold fnl
      rw [h9 _ (by omega) (by omega), ih (by omega)]
  by_cases c : 0 ≤ G 0 t
  · exact this (G 0 t).toNat (by omega)
  · rw [show (G 0 t).toNat = 0 by omega]
    rfl
theorem sOne_cg {G G' : hv} {t u : Int} (h : ∀ x, fnd G' t x = fnd G t x) : sOne B n G' t u s = sOne B n G t u s := by
  unfold sOne onb
  cases sNam B n s with
  | inl e => rfl
  | inr L => dsimp only; rw [h]
/-- the picture with one more note, not yet counted -/
def tnG (G0 : hv) (L : List Int) (G : hv) : Prop := (∀ a k, a ≠ 4 → G a k = aNm G0 1 L a k) ∧ ∀ nn l, 0 ≤ l → l < 4 → nn ≠ nN G0 → tT G nn l = tT G0 nn l
theorem note139_B {v2 v4 k q : Int} (F : RB m k q) : r_noteTold_139 v2 v4 m = some (0, m) := by
  unfold r_noteTold_139
  rw [if_neg (by rw [F.2.1]; exact F.1)]
theorem noteR_loop {G0 : hv} {L : List Int} (wf0 : wfG G0) (nf : nN G0 < 6) (nl : nmL L) : ∀ (f : Nat) {G : hv} {u : Int} {s : Int × Int} {g : Nat} {m : xm}, RS m B n s → RHp m G0 z → tnG G0 L G → (∀ l, 0 ≤ l → l < 4 → ld m 104 (4 * nN G0 + l) = tT G (nN G0) l) → 0 ≤ u → u < 2 ^ (nL G0).toNat → (nL G0 - bc u).toNat < f → (nL G0 - bc u).toNat + 2 < g → FHr m0 m → HRr B n m0 (sTn B n z (nN G0) f G u s) (r_noteTold_67 g (n27 0 L) (nN G0) u 1 m)
  | 0, _, _, _, _, _, _, _, _, _, _, _, hf, _, _ => by omega
  | f + 1, G, u, s, g, m, S, R, tn, h104, u0, u1, hf, hg, hF => by
    have l0 := wf0.1.1
    have l4 := wf0.1.2.1
    have n0 := wf0.2.1
    have p6 := p2_64 (n := nL G0) (by omega)
    have b6 := bc_rng (j := u)
    have bl := bits_le l0 (by omega) u0 u1
    have lr := nmL_rng nl
    have cN := RHp_RN wf0 R
    have e00 : G 0 0 = G0 0 0 := by rw [tn.1 0 0 (by decide), aNm_0, if_neg (by decide)]
    have fe : ∀ x, fnd G 0 x = fnd G0 0 x := fun x => fnd_cg e00 (fun i a b => by
      have := wf_cnt wf0 0 (by decide) (by decide)
      rw [tn.1 9 _ (by decide), aNm_9, if_neg (by unfold nN at n0; omega)])
    obtain ⟨g, rfl⟩ : ∃ g', g = g' + 1 := ⟨g - 1, by omega⟩
    have hO := r_oneOf_S S cN (t := 0) (st := u) (by decide) (by decide) u0 (by omega)
    rw [r_noteTold_67, if_pos S.2.2.1, if_neg (by decide)]
    unfold sTn
    rw [sOne_cg fe]
    cases e1 : sOne B n G0 0 u s with
    | inl x =>
      obtain ⟨k, q⟩ := x
      obtain ⟨m1, a1, a2, a3⟩ := hO.2 k q e1
      rw [a1, bnd_some, r_number_B a2, bnd_some, if_neg (by rw [a2.2.1]; exact a2.1)]
      exact HRr_inl a2 (FHr_trans hF (FHr_FN a3))
    | inr l =>
      obtain ⟨m1, a1, a2, a3⟩ := hO.1 l e1
      have lk := sOne_k (t := 0) l0 e1
      have lk2 : l < nL G0 := lk.2.1
      have bn := bits_new l0 (by omega) u0 u1 lk.1 lk2 lk.2.2
      have hU := r_number_S (lo := 1) (hi := 4) a2 ⟨by decide, by decide⟩ ⟨by decide, by decide⟩
      rw [a1, bnd_some]
      dsimp only [nub]
      cases e2 : sNum B n 1 4 (nx B n s) with
      | inl x =>
        obtain ⟨k, q⟩ := x
        obtain ⟨r, m2, b1, b0, b2, b3⟩ := hU.2 k q e2
        rw [b1, bnd_some, if_neg (by rw [b2.2.1]; exact b2.1)]
        exact HRr_inl b2 (FHr_trans hF (FHr_FN (FN_trans a3 (FN_FR b3))))
      | inr v =>
        obtain ⟨m2, b1, b2, b3⟩ := hU.1 v e2
        have vr := sNum_rng e2
        have f2 := FN_trans a3 (FN_FR b3)
        have bs := bor_sb u0 (show u < 64 by omega) lk.1 (show l < 6 by omega)
        obtain ⟨m3, hm3⟩ : ∃ m3, m3 = st m2 104 (4 * nN G0 + l) v := ⟨_, rfl⟩
        have S3 : RS m3 B n (nx B n (nx B n s)) := by rw [hm3]; exact RS_cg b2 (fun a k x => st_at (by omega))
        obtain ⟨m4, d1, d2, d3, d4⟩ := r_look_S S3
        have f4 : ∀ a k, ¬ (a = 78 ∧ (k = 2 ∨ k = 4 ∨ k = 5 ∨ k = 6 ∨ k = 30)) → ¬ (a = 104 ∧ k = 4 * nN G0 + l) → m4 a k = m a k := fun a k x1 x2 => by rw [d4 a k (by omega), hm3, st_at x2, f2 a k x1]
        have R4 : RHp m4 G0 z := by
          obtain ⟨r1, r2, r3, r4, r5, r6, r7, r8, r9⟩ := R
          refine ⟨fun t a b => ?_, ?_, fun l a b => ?_, fun n' l' a b c d => ?_, fun p a b => ?_, fun d a b => ?_, fun d k a b c e => ?_, ?_, fun t i a b c d => ?_⟩
          · rw [ldq (f4 101 t (by omega) (by omega))]; exact r1 t a b
          · rw [ldq (f4 106 0 (by omega) (by omega))]; exact r2
          · rw [ldq (f4 103 _ (by omega) (by omega)), ldq (f4 103 _ (by omega) (by omega)), ldq (f4 103 _ (by omega) (by omega))]; exact r3 l a b
          · rw [ldq (f4 104 _ (by omega) (by omega))]; exact r4 n' l' a b c d
          · rw [ldq (f4 105 p (by omega) (by omega))]; exact r5 p a b
          · rw [ldq (f4 107 d (by omega) (by omega)), ldq (f4 108 d (by omega) (by omega))]; exact r6 d a b
          · rw [ldq (f4 109 k (by omega) (by omega))]; exact r7 d k a b c e
          · rw [ldq (f4 78 40 (by omega) (by omega))]; exact r8
          · rw [ldlq (f4 102 _ (by omega) (by omega))]; exact r9 t i a b c d
        have F4 : FHr m0 m4 := FHr_trans hF (fun a k g1 _ _ _ g5 _ _ _ _ _ _ _ => f4 a k (by omega) (by omega))
        have tn4 : tnG G0 L (aTn G (nN G0) l v) := ⟨fun a k x => by unfold aTn; rw [st_at (by omega), tn.1 a k x], fun n' l' x1 x2 x3 => by
          have := tn.2 n' l' x1 x2 x3
          unfold tT aTn at *
          rw [st_at (by omega)]
          exact this⟩
        have t4 : ∀ l', 0 ≤ l' → l' < 4 → ld m4 104 (4 * nN G0 + l') = tT (aTn G (nN G0) l v) (nN G0) l' := by
          intro l' x1 x2
          unfold tT aTn
          by_cases y : l' = l
          · rw [y, st_eq, ldq (d4 104 _ (by omega)), hm3, ld_st_eq, w32_id (by omega) (by omega)]
          · rw [st_at (by omega), ldq (f4 104 _ (by omega) (by omega))]
            exact h104 l' x1 x2
        rw [b1, bnd_some, if_pos b2.2.2.1, xlt_eq, bs, ias_in (by omega) (by rw [al104]; omega), ← hm3, d1, bnd_some, r_isLetter_ok (see_rg (RT_TB S3.1) S3.2.1), bnd_some]
        dsimp only
        by_cases lt : ltr (see B n (tq B n (nx B n (nx B n s)))) = true
        · rw [if_pos lt, if_pos lt]
          exact noteR_loop wf0 nf nl f (G := aTn G (nN G0) l v) (u := sb u l) (g := g) (m := m4) d2 R4 tn4 t4 bn.1 bn.2.1 (by rw [bn.2.2.1]; omega) (by rw [bn.2.2.1]; omega) F4
        · rw [if_neg lt, if_neg lt]
          obtain ⟨g, rfl⟩ : ∃ g', g = g' + 1 := ⟨g - 1, by omega⟩
          obtain ⟨r1, r2, r3, r4, r5, r6, r7, r8, r9⟩ := R4
          have e1' : ld m4 101 1 = nN G0 := r1 1 (by decide) (by decide)
          obtain ⟨m5, hm5⟩ : ∃ m5, m5 = st (st m4 102 (6 + nN G0) (n27 0 L)) 101 1 (nN G0 + 1) := ⟨_, rfl⟩
          have f5 : ∀ a k, ¬ (a = 102 ∧ k = 6 + nN G0) → ¬ (a = 101 ∧ k = 1) → m5 a k = m4 a k := fun a k x1 x2 => by rw [hm5, st_at x2, st_at x1]
          have cn := wf_cnt wf0
          obtain ⟨G', hG'⟩ : ∃ G', G' = aTn G (nN G0) l v := ⟨_, rfl⟩
          rw [← hG'] at tn4 t4 ⊢
          have g0 : ∀ t, G' 0 t = if t = 1 then G0 0 1 + 1 else G0 0 t := fun t => by rw [tn4.1 0 t (by decide), aNm_0]
          have gx : ∀ (a : Nat) (k : Int), a ≠ 0 → a ≠ 4 → a ≠ 9 → G' a k = G0 a k := fun a k x1 x2 x3 => by rw [tn4.1 a k x2, aNm_x x1 x3]
          rw [r_noteTold_67, if_pos d2.2.2.1, if_pos (by rfl)]
          unfold r_noteTold_139
          rw [if_pos d2.2.2.1, ias_in (by omega) (by rw [al102]; omega), ial_in (by decide) (by rw [al101]; decide), ld_st_nc (by decide), e1', ias_in (by decide) (by rw [al101]; decide), ← hm5]
          refine HRr_inr (RS_cg d2 (fun a k x => f5 a k (by omega) (by omega))) ⟨fun t a b => ?_, ?_, fun l a b => ?_, fun n' l' a b c d => ?_, fun p a b => ?_, fun d a b => ?_, fun d k a b c e => ?_, ?_, fun t i a b c d => ?_⟩ (FHr_trans F4 (fun a k _ x2 x3 _ _ _ _ _ _ _ _ _ => f5 a k (by omega) (by omega)))
          · rw [g0]
            by_cases y : t = 1
            · rw [if_pos y, y, hm5, ld_st_eq, w32_id (by omega) (by omega)]; rfl
            · rw [if_neg y, ldq (f5 101 t (by omega) (by omega))]; exact r1 t a b
          · unfold ru
            rw [g0, if_neg (by decide), ldq (f5 106 0 (by omega) (by omega))]; exact r2
          · unfold nL at b
            rw [g0, if_neg (by decide)] at b
            rw [gx 1 l (by decide) (by decide) (by decide), gx 2 l (by decide) (by decide) (by decide), gx 3 l (by decide) (by decide) (by decide), ldq (f5 103 _ (by omega) (by omega)), ldq (f5 103 _ (by omega) (by omega)), ldq (f5 103 _ (by omega) (by omega))]; exact r3 l a b
          · unfold nN at b
            rw [g0, if_pos rfl] at b
            rw [ldq (f5 104 _ (by omega) (by omega))]
            by_cases y : n' = nN G0
            · rw [y]; exact t4 l' c d
            · rw [tn4.2 n' l' c d y]; exact r4 n' l' a (by unfold nN at *; omega) c d
          · unfold nP at b
            rw [g0, if_neg (by decide)] at b
            rw [gx 5 p (by decide) (by decide) (by decide), ldq (f5 105 p (by omega) (by omega))]; exact r5 p a b
          · unfold nD at b
            rw [g0, if_neg (by decide)] at b
            rw [gx 6 d (by decide) (by decide) (by decide), gx 7 d (by decide) (by decide) (by decide), ldq (f5 107 d (by omega) (by omega)), ldq (f5 108 d (by omega) (by omega))]; exact r6 d a b
          · unfold nD at b
            rw [g0, if_neg (by decide)] at b
            rw [gx 6 d (by decide) (by decide) (by decide)] at c
            rw [gx 7 d (by decide) (by decide) (by decide)] at e
            rw [gx 8 k (by decide) (by decide) (by decide), ldq (f5 109 k (by omega) (by omega))]; exact r7 d k a b c e
          · rw [ldq (f5 78 40 (by omega) (by omega))]; exact r8
          · have ct := cn t a b
            rw [g0] at d
            rw [tn4.1 9 _ (by decide), aNm_9]
            have n1 : G0 0 1 = nN G0 := rfl
            by_cases y : 6 * t + i = 6 * 1 + G0 0 1
            · rw [if_pos y, y, hm5, ldl_st_nc (by decide), show 6 * 1 + G0 0 1 = 6 + nN G0 by omega, ldl_st_eq, w64_id (by omega) (by omega)]
              exact ⟨L, nl, rfl, rfl⟩
            · have : i < G0 0 t := by
                by_cases x : t = 1
                · rw [if_pos x] at d
                  subst x
                  omega
                · rw [if_neg x] at d
                  exact d
              rw [if_neg y, ldlq (f5 102 _ (by omega) (by omega))]
              exact r9 t i a b c this
theorem note36 {v2 x : Int} (hx0 : 0 ≤ x) (hx : x < 6) : ∀ (r : Nat) {g : Nat} {i : Int} {m : xm}, i + (r : Int) = 4 → 0 ≤ i → r < g → ∃ m', r_noteTold_36 g v2 x i m = r_noteTold_61 v2 x m' ∧ (∀ l, i ≤ l → l < 4 → ld m' 104 (4 * x + l) = 0) ∧ ∀ a k, ¬ (a = 104 ∧ 4 * x + i ≤ k ∧ k < 4 * x + 4) → m' a k = m a k
  | 0, g, i, m, hi, h0, hg => by
    obtain ⟨g, rfl⟩ : ∃ g', g = g' + 1 := ⟨g - 1, by omega⟩
    rw [r_noteTold_36, w32_id (by omega) (by omega), if_pos (by omega)]
    exact ⟨m, rfl, fun l a b => by omega, fun _ _ _ => rfl⟩
  | r + 1, g, i, m, hi, h0, hg => by
    obtain ⟨g, rfl⟩ : ∃ g', g = g' + 1 := ⟨g - 1, by omega⟩
    obtain ⟨m', a1, a2, a3⟩ := note36 (v2 := v2) hx0 hx r (g := g) (i := i + 1) (m := st m 104 (4 * x + i) 0) (by omega) (by omega) (by omega)
    rw [r_noteTold_36, w32_id (by omega) (by omega), if_neg (by omega), ias_in (by omega) (by rw [al104]; omega), a1]
    refine ⟨m', rfl, fun l x1 x2 => ?_, fun a k x1 => by rw [a3 a k (by omega), st_at (by omega)]⟩
    by_cases y : l = i
    · rw [y, ldq (a3 104 _ (by omega)), ld_st_eq]; rfl
    · exact a2 l (by omega) x2
theorem noteTold_S (S : RS m B n (nx B n s)) (ok : okT n s) (I : GI G z) (R : RHp m G z) : HRr B n m (sNote B n G z s) (r_noteTold (tq B n s) m) := by
  obtain ⟨wf, wD, h7, hz, h5⟩ := I
  have n0 := wf.2.1
  have cN := RHp_RN wf R
  have hd := head_S (t := 1) S ok cN (by decide) (by decide) n0.2 (E := fun m => some (0, m)) (K := fun r3 m4 => bnd (r_asks 86 m4) fun r5 m6 => ial m6 101 1 fun x7 => xlt x7 fun x8 => r_noteTold_36 xLF r3 x8 0 m6)
  have eq : r_noteTold (tq B n s) m = bnd (r_isFull 1 (mok 1) (tq B n s) m) fun r1 m2 => if w32 r1 = 0 then bnd (r_newName m2) (fun r3 m4 => bnd (r_asks 86 m4) fun r5 m6 => ial m6 101 1 fun x7 => xlt x7 fun x8 => r_noteTold_36 xLF r3 x8 0 m6) else some (0, m2) := by
    unfold r_noteTold
    rfl
  have bad : ∀ {m' : xm} {k q r : Int}, nN G < 6 → RB m' k q → FN m m' → HRr B n m (.inl (k, q)) (ial m' 101 1 fun x7 => xlt x7 fun x8 => r_noteTold_36 xLF r x8 0 m') := by
    intro m' k q r nf F f
    have e1 : ld m' 101 1 = nN G := by rw [ldq (f 101 1 (by omega))]; exact R.1 1 (by decide) (by decide)
    obtain ⟨m2, b1, -, b3⟩ := note36 (v2 := r) (x := nN G) n0.1 nf 4 (g := xLF) (i := 0) (m := m') (by decide) (by decide) (by rw [xLF_eq]; omega)
    have F2 : RB m2 k q := ⟨F.1, by rw [ldq (b3 78 5 (by omega))]; exact F.2.1, by rw [ldq (b3 78 6 (by omega))]; exact F.2.2⟩
    rw [ial_in (by decide) (by rw [al101]; decide), e1, xlt_eq, b1]
    unfold r_noteTold_61
    rw [xLF_eq, r_noteTold_67, if_neg (by rw [F2.2.1]; exact F2.1), note139_B F2]
    exact HRr_inl F2 (fun a k x1 _ _ _ x5 _ _ _ _ _ _ _ => by rw [b3 a k (by omega), f a k (by omega)])
  rw [eq]
  unfold sNote
  cases e1 : sNew B n G 1 s with
  | inl x =>
    obtain ⟨k, q⟩ := x
    obtain ⟨m1, a2, a3, a4⟩ := hd.2 k q e1
    rcases a4 with a4 | ⟨r, a4⟩
    · rw [a4]
      exact HRr_inl a2 (FHr_FN a3)
    · by_cases nf : nN G < 6
      · rw [a4, r_asks_B a2, bnd_some]
        exact bad nf a2 a3
      · -- full: then the head ended there
        have hF := (r_isFull_S S cN (t := 1) (by decide) (by decide) n0.2 (tq_rg (B := B) (RT_TB S.1) ok)).1 (show mok 1 ≤ G 0 1 by unfold nN at nf; rw [mok4.2.1]; omega)
        obtain ⟨m2, b1, b2, b3⟩ := hF
        have e5 : (k, q) = (5, tq B n s) := by
          unfold sNew at e1
          rw [if_pos (show mok 1 ≤ G 0 1 by unfold nN at nf; rw [mok4.2.1]; omega)] at e1
          cases e1
          rfl
        cases e5
        rw [b1, bnd_some, if_neg (by decide)]
        exact HRr_inl b2 (FHr_FN (FN_FR b3))
  | inr L =>
    obtain ⟨m1, a1, a2, a3⟩ := hd.1 L e1
    obtain ⟨nl, nf, -, -, -⟩ := sNew_L ok e1
    have nf : nN G < 6 := nf
    rw [a1]
    dsimp only [nlb]
    unfold wdb
    have hW := r_asks_S (a := 86) (by unfold isD; decide) a2
    rw [show rlit 86 = lit 6 from rfl] at hW
    by_cases w2 : isW B n (lit 6) (nx B n (nx B n s)) = false
    · obtain ⟨m2, b1, b2, b3⟩ := hW.2 w2
      rw [if_neg (bF w2), b1, bnd_some]
      exact bad nf b2 (FN_trans a3 (FN_FR b3))
    have w2 : isW B n (lit 6) (nx B n (nx B n s)) = true := by simpa using w2
    obtain ⟨m2, b1, b2, b3⟩ := hW.1 w2
    have F2 := FN_trans a3 (FN_FR b3)
    have e1' : ld m2 101 1 = nN G := by rw [ldq (F2 101 1 (by omega))]; exact R.1 1 (by decide) (by decide)
    obtain ⟨m3, d1, d2, d3⟩ := note36 (v2 := n27 0 L) (x := nN G) n0.1 nf 4 (g := xLF) (i := 0) (m := m2) (by decide) (by decide) (by rw [xLF_eq]; omega)
    have R2 := RHp_FN R F2
    have R3 : RHp m3 G z := by
      obtain ⟨r1, r2, r3, r4, r5, r6, r7, r8, r9⟩ := R2
      refine ⟨fun t a b => ?_, ?_, fun l a b => ?_, fun n' l' a b c d => ?_, fun p a b => ?_, fun d a b => ?_, fun d k a b c e => ?_, ?_, fun t i a b c d => ?_⟩
      · rw [ldq (d3 101 t (by omega))]; exact r1 t a b
      · rw [ldq (d3 106 0 (by omega))]; exact r2
      · rw [ldq (d3 103 _ (by omega)), ldq (d3 103 _ (by omega)), ldq (d3 103 _ (by omega))]; exact r3 l a b
      · rw [ldq (d3 104 _ (by omega))]; exact r4 n' l' a b c d
      · rw [ldq (d3 105 p (by omega))]; exact r5 p a b
      · rw [ldq (d3 107 d (by omega)), ldq (d3 108 d (by omega))]; exact r6 d a b
      · rw [ldq (d3 109 k (by omega))]; exact r7 d k a b c e
      · rw [ldq (d3 78 40 (by omega))]; exact r8
      · rw [ldlq (d3 102 _ (by omega))]; exact r9 t i a b c d
    have l4 := wf.1.2.1
    have b0 : bc 0 = 0 := by decide
    rw [if_pos w2, b1, bnd_some, ial_in (by decide) (by rw [al101]; decide), e1', xlt_eq, d1]
    unfold r_noteTold_61
    refine noteR_loop wf nf nl 10 (G := aNm G 1 L) (u := 0) (g := xLF) (m := m3) (RS_cg b2 (fun a k x => d3 a k (by omega))) R3 ⟨fun _ _ _ => rfl, fun n' l _ _ _ => by unfold tT; rw [aNm_x (by decide) (by decide)]⟩ (fun l x1 x2 => ?_) (by decide) (Int.pow_pos (by decide)) (by rw [b0]; omega) (by rw [b0, xLF_eq]; omega) (fun a k x1 _ _ _ x5 _ _ _ _ _ _ _ => by rw [d3 a k (by omega), F2 a k (by omega)])
    have t := wf.2.2.2.2.2.2.1 (nN G) l n0.1 nf x1 x2
    rw [d2 l x1 x2]
    unfold tT at *
    rw [aNm_x (by decide) (by decide)]
    exact (t.2.2 (Or.inl (Int.le_refl _))).symm
end RSN
