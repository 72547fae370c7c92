/-! the program's notes, players, doors, rust -/
theorem bits_n0 : ((List.range 7).all fun n => (List.range 64).all fun j => (List.range 6).all fun l => !(decide (j < 2 ^ n)) || (!(decide (l < n)) || (decide (0 ≤ sb (j : Int) (l : Int)) && (decide (sb (j : Int) (l : Int) < 2 ^ n) && (decide (bt (j : Int) (l : Int) = 1) || decide (bc (j : Int) + 1 ≤ (n : Int))))))) = true := by decide +kernel
theorem bits_nd {n j l : Nat} (hn : n < 7) (hj : j < 64) (hl : l < 6) (h1 : j < 2 ^ n) (h2 : l < n) : 0 ≤ sb (j : Int) (l : Int) ∧ sb (j : Int) (l : Int) < 2 ^ n ∧ (bt (j : Int) (l : Int) = 1 ∨ bc (j : Int) + 1 ≤ (n : Int)) := by
  have a := List.all_eq_true.mp bits_n0 n (List.mem_range.mpr hn)
  have b := List.all_eq_true.mp a j (List.mem_range.mpr hj)
  have c := List.all_eq_true.mp b l (List.mem_range.mpr hl)
  rw [decide_eq_true h1, decide_eq_true h2] at c
  simp only [Bool.not_true, Bool.false_or, Bool.and_eq_true, Bool.or_eq_true, decide_eq_true_eq] at c
  exact c
theorem bits_na {n j l : Nat} (hn : n < 7) (hj : j < 64) (hl : l < 6) (h1 : j < 2 ^ n) (h2 : l < n) : 0 ≤ sb (j : Int) (l : Int) ∧ sb (j : Int) (l : Int) < 2 ^ n := ⟨(bits_nd hn hj hl h1 h2).1, (bits_nd hn hj hl h1 h2).2.1⟩
theorem bits_nb : ∀ j : Nat, j < 64 → ∀ l : Nat, l < 6 → bt (j : Int) (l : Int) ≠ 1 → bc (sb (j : Int) (l : Int)) = bc (j : Int) + 1 := by decide +kernel
theorem bits_nc {n j l : Nat} (hn : n < 7) (hj : j < 64) (hl : l < 6) (h1 : j < 2 ^ n) (h2 : l < n) (hb : bt (j : Int) (l : Int) ≠ 1) : bc (j : Int) + 1 ≤ (n : Int) := (bits_nd hn hj hl h1 h2).2.2.resolve_left hb
theorem bits_new {n j l : Int} (hn0 : 0 ≤ n) (hn : n ≤ 6) (h1 : 0 ≤ j) (h2 : j < 2 ^ n.toNat) (h3 : 0 ≤ l) (h4 : l < n) (hb : ¬ bt j l = 1) : 0 ≤ sb j l ∧ sb j l < 2 ^ n.toNat ∧ bc (sb j l) = bc j + 1 ∧ bc j + 1 ≤ n := by
  obtain ⟨a, rfl⟩ : ∃ a : Nat, n = (a : Int) := ⟨n.toNat, by omega⟩
  obtain ⟨b, rfl⟩ : ∃ b : Nat, j = (b : Int) := ⟨j.toNat, by omega⟩
  obtain ⟨c, rfl⟩ : ∃ c : Nat, l = (c : Int) := ⟨l.toNat, by omega⟩
  rw [Int.toNat_natCast] at h2 ⊢
  have h2' : b < 2 ^ a := by
    have e : ((2 ^ a : Nat) : Int) = (2 : Int) ^ a := by push_cast; rfl
    omega
  have p6 : 2 ^ a ≤ 2 ^ 6 := Nat.pow_le_pow_right (by decide) (by omega)
  have na := bits_na (n := a) (j := b) (l := c) (by omega) (by omega) (by omega) h2' (by omega)
  exact ⟨na.1, na.2, bits_nb b (by omega) c (by omega) hb, bits_nc (n := a) (j := b) (l := c) (by omega) (by omega) (by omega) h2' (by omega) hb⟩
theorem bits_le0 : ∀ n : Nat, n ≤ 6 → ∀ j : Nat, j < 2 ^ n → bc (j : Int) ≤ (n : Int) := by decide +kernel
theorem bits_le {n j : Int} (hn0 : 0 ≤ n) (hn : n ≤ 6) (h1 : 0 ≤ j) (h2 : j < 2 ^ n.toNat) : bc j ≤ n := by
  obtain ⟨a, rfl⟩ : ∃ a : Nat, n = (a : Int) := ⟨n.toNat, by omega⟩
  obtain ⟨b, rfl⟩ : ∃ b : Nat, j = (b : Int) := ⟨j.toNat, by omega⟩
  rw [Int.toNat_natCast] at h2
  have h2' : b < 2 ^ a := by
    have e : ((2 ^ a : Nat) : Int) = (2 : Int) ^ a := by push_cast; rfl
    omega
  exact bits_le0 a (by omega) b h2'
theorem p2_64 {n : Int} (h : n ≤ 6) : (2 : Int) ^ n.toNat ≤ 64 := p2_6 n.toNat (by omega)
section STN
variable {B : Int → Int} {n : Int} {s : Int × Int} {m m0 : xm} {G : hv} {h : Nat} {z : Int}
theorem sOne_k {t u k : Int} (hc : 0 ≤ G 0 t) (e : sOne B n G t u s = .inr k) : 0 ≤ k ∧ k < G 0 t ∧ ¬ bt u k = 1 := by
  unfold sOne onb at e
  cases es : sNam B n s with
  | inl x => rw [es] at e; cases e
  | inr L =>
    rw [es] at e
    dsimp only at e
    split at e
    · cases e
    · next d =>
      cases e
      have := fnd_rng (G := G) (t := t) (x := n32 L) hc
      refine ⟨?_, ?_, fun y => d (Or.inr y)⟩
      · rcases this with y | y
        · exact absurd (Or.inl y) d
        · exact y.1
      · rcases this with y | y
        · exact absurd (Or.inl y) d
        · exact y.2
theorem ltr_kd {s : Int × Int} (h : ltr (see B n (tq B n s)) = true) : tkd B n s = 1 ∨ tkd B n s = 4 := by
  by_cases j : jnd B n s
  · right
    have k : kdo (see B n (tq B n s)) = 1 := by
      unfold kdo
      rw [if_neg (by intro c; rw [c] at h; revert h; decide), if_pos h]
    unfold tkd tkk
    rw [if_pos ⟨j.1, j.2, Or.inl k⟩]
  · exact Or.inl (tkd_1.mpr ⟨h, j⟩)
theorem sOne_4 {t u : Int} (h : tkd B n s = 4) : sOne B n G t u s = .inl (1, tq B n s) := by
  unfold sOne sNam
  rw [if_neg (fun y => by rw [y.1] at h; exact absurd h (by decide))]
  rfl
theorem HRc_jn {s' : Int × Int} (h1 : CS m B n s') (h4 : tkd B n s' = 4) (h2 : CN m h G) (h3 : FHc h m0 m) : HRc B n h m0 (.inl (1, tq B n s')) (some (0, m)) := ⟨fun a b c y => (by cases y), fun k q y => by cases y; exact ⟨m, rfl, Or.inr ⟨s', h1, h4, rfl, rfl⟩, ⟨G, h2⟩, h3⟩⟩
/-- the last round of a note's loop -/
theorem note_out {f : Nat} {v2 v3 k : Int} (hk0 : 0 ≤ k) (hk : k ≤ 7) (h0 : k ≠ 0) (hn : ld m 3 1 ≠ 1) : cR_readNote_21 h (f + 1) v2 v3 k m = some (0, m) := by
  rw [cR_readNote_21, w32_id (by omega) (by omega)]
  by_cases c : 4 < k
  · rw [if_pos c]
  · unfold cW_isAnyWord
    rw [if_neg c, if_neg h0, if_neg hn, bnd_some, if_pos (by rfl)]
theorem note_loop (p : isH h) {nn : Int} (hnn0 : 0 ≤ nn) : ∀ (f : Nat) {G : hv} {u : Int} {s : Int × Int} {g : Nat} {m : xm}, CS m B n s → GI G z → HC m h G z → nn < nN G → nk G nn = u → 0 ≤ u → u < 2 ^ (nL G).toNat → (nL G - bc u).toNat < f → (nL G - bc u).toNat + 1 < g → FHc h m0 m → HRc B n h m0 (sTn B n z nn f G u s) (cR_readNote_42 h (fun v2 v3 v4 m => cR_readNote_21 h g v2 v3 v4 m) nn u (bc u) m)
  | 0, _, _, _, _, _, _, _, _, _, _, _, _, hf, _, _ => by omega
  | f + 1, G, u, s, g, m, S, I, H, hn, hst, u0, u1, hf, hg, hF => by
    have pr := isH_rng p
    have al := alnH p
    have wf := I.1
    have l0 := wf.1.1
    have l4 := wf.1.2.1
    have n6 := wf.2.1
    have p6 := p2_64 (n := nL G) (by omega)
    have b6 := bc_rng (j := u)
    have bl := bits_le l0 (by omega) u0 u1
    have cN := CH_CN wf H.1
    obtain ⟨g, rfl⟩ : ∃ g', g = g' + 1 := ⟨g - 1, by omega⟩
    have hK := readKnown_S p S cN (t := 0) (st := u) (by decide) (by decide) u0 (by omega)
    have bad : ∀ {m' : xm} {k q : Int}, CF m' k q → FHc h m0 m' → CN m' h G → HRc B n h m0 (.inl (k, q)) (cR_readNote_88 h (fun v2 v3 v4 m => cR_readNote_21 h (g + 1) v2 v3 v4 m) nn u (bc u) m') := by
      intro m' k q F f1 c1
      unfold cR_readNote_88
      dsimp only
      rw [note_out (by omega) (by omega) (by omega) (by rw [F.2.2.2]; decide)]
      exact HRc_inl F c1 f1
    unfold sTn cR_readNote_42 cW_faultKind
    cases e1 : sOne B n G 0 u s with
    | inl x =>
      obtain ⟨k, q⟩ := x
      obtain ⟨r, m1, a1, a2, a3⟩ := hK.2 k q e1
      rw [a1, bnd_some, cW_needNumber_F a2, bnd_some, bnd_some, w32_ld, if_neg (by rw [a2.2.1]; exact a2.1)]
      exact bad a2 (FHc_trans hF (FHc_F3 a3)) (CN_F3 p cN a3)
    | inr l =>
      obtain ⟨m1, a1, a2, a3⟩ := hK.1 l e1
      have lk := sOne_k (t := 0) l0 e1
      have lk2 : l < nL G := lk.2.1
      have bn := bits_new l0 (by omega) u0 u1 lk.1 lk2 lk.2.2
      have hU := cW_needNumber_S (lo := 1) (hi := 4) a2 (by decide) (by decide) ⟨by decide, by decide⟩
      rw [a1, bnd_some]
      dsimp only [nub]
      cases e2 : sNum B n 1 4 (nx B n s) with
      | inl x =>
        obtain ⟨k, q⟩ := x
        obtain ⟨m2, b1, b2, b3⟩ := hU.2 k q e2
        rw [b1, bnd_some, bnd_some, w32_ld, if_neg (by rw [b2.2.1]; exact b2.1)]
        exact bad b2 (FHc_trans hF (FHc_F3 (F3_trans a3 b3))) (CN_F3 p cN (F3_trans a3 b3))
      | inr v =>
        obtain ⟨m2, b1, b2, b3⟩ := hU.1 v e2
        have vr := sNum_rng e2
        have f2 := F3_trans a3 b3
        have e10 : ld m2 (h + 10) nn = u := by rw [ldq (f2 (h + 10) nn (by omega)), ch_nk H.1 hnn0 (by omega), hst]
        have tz : tT G nn l = 0 := by
          have y1 := nk_bt G nn lk.1 (show l < 4 by omega)
          have t := wf.2.2.2.2.2.2.1 nn l hnn0 (by omega) lk.1 (by omega)
          rw [hst] at y1
          refine Decidable.byContradiction fun y => lk.2.2 ?_
          rw [y1, if_pos (by omega)]
        obtain ⟨m3, hm3⟩ : ∃ m3, m3 = st (st m2 (h + 9) (4 * nn + l) v) (h + 10) nn (sb u l) := ⟨_, rfl⟩
        have bs := bor_sb u0 (show u < 64 by omega) lk.1 (show l < 6 by omega)
        have tt : cH_tellTurn h nn l v m2 = some (0, m3) := by
          unfold cH_tellTurn
          rw [show nn * 4 + l = 4 * nn + l by omega, setCell_in (by omega) (by omega), bnd_some, cell_in hnn0 (by omega), bnd_some, ld_st_nc (by omega), e10, bs, setCell_in hnn0 (by omega), bnd_some, hm3]
        have f3 : ∀ b k, b ≠ 3 → ¬ (b = h + 9 ∧ k = 4 * nn + l) → ¬ (b = h + 10 ∧ k = nn) → m3 b k = m b k := fun b k x1 x2 x3 => by rw [hm3, st_at x3, st_at x2, f2 b k x1]
        have S3 : CS m3 B n (nx B n (nx B n s)) := CS_cg b2 (fun b k x => by rw [hm3, st_at (by omega), st_at (by omega)])
        have H3 : HC m3 h (aTn G nn l v) z := by
          refine ⟨CH_turn p H.1 hnn0 (by omega) lk.1 (by omega) (by omega) tz ?_ ?_ f3, ?_⟩
          · rw [hm3, ld_st_nc (by omega), ld_st_eq, w32_id (by omega) (by omega)]
          · rw [hm3, ld_st_eq, hst, w32_id (by omega) (by omega)]
          · rw [ldq (f3 (h + 1) 2 (by omega) (by omega) (by omega)), H.2]
        have F3' : FHc h m0 m3 := FHc_trans hF (fun b k x1 x2 => f3 b k x1 (by omega) (by omega))
        have I3 := GI_turn (v := v) I hnn0 hn lk.1 lk2 (by omega) vr.2.1
        have nL3 : nL (aTn G nn l v) = nL G := by unfold nL aTn; rw [st_at (by omega)]
        have nN3 : nN (aTn G nn l v) = nN G := by unfold nN aTn; rw [st_at (by omega)]
        rw [b1, bnd_some, bnd_some, w32_ld, if_pos b2.2.2.1, tt, bnd_some, xlt_eq, bs]
        unfold cR_readNote_88
        dsimp only
        by_cases lt : ltr (see B n (tq B n (nx B n (nx B n s)))) = true
        · rw [if_pos lt]
          rcases ltr_kd lt with k1 | k4
          · rw [cR_readNote_21, w32_id (by omega) (by omega), if_neg (by omega), if_neg (by omega)]
            unfold cW_isAnyWord
            rw [if_pos (by rw [S3.2.2.2.2.1]; exact k1), bnd_some, if_neg (by decide)]
            have ih := note_loop p hnn0 f (G := aTn G nn l v) (u := sb u l) (g := g) (m := m3) S3 I3 H3 (by omega) (by rw [nk_turn lk.1 (by omega) (by omega) tz, hst]) bn.1 (by rw [nL3]; exact bn.2.1) (by rw [nL3, bn.2.2.1]; omega) (by rw [nL3, bn.2.2.1]; omega) F3'
            rw [bn.2.2.1] at ih
            exact ih
          · rw [note_out (by omega) (by omega) (by omega) (by rw [S3.2.2.2.2.1, k4]; decide)]
            obtain ⟨f, rfl⟩ : ∃ f', f = f' + 1 := ⟨f - 1, by omega⟩
            have e4 : sTn B n z nn (f + 1) (aTn G nn l v) (sb u l) (nx B n (nx B n s)) = .inl (1, tq B n (nx B n (nx B n s))) := by
              unfold sTn
              rw [sOne_4 k4]
              rfl
            rw [e4]
            exact HRc_jn S3 k4 (CH_CN I3.1 H3.1) F3'
        · rw [if_neg lt, note_out (by omega) (by omega) (by omega) (by rw [S3.2.2.2.2.1]; exact fun y => lt (tkd_1.mp y).1)]
          exact HRc_inr S3 H3 F3'
theorem note_F {f : Nat} {v2 k q : Int} (p : isH h) (c : CN m h G) (F : CF m k q) : cR_readNote_21 h (f + 2) v2 0 0 m = some (0, m) := by
  obtain ⟨r, e⟩ := readKnown_F (st := 0) p c (t := 0) (by decide) (by decide) F
  rw [show f + 2 = (f + 1) + 1 from rfl, cR_readNote_21, if_neg (by decide), if_pos (by rfl)]
  unfold cR_readNote_42 cW_faultKind cR_readNote_88
  rw [e, bnd_some, cW_needNumber_F F, bnd_some, bnd_some, w32_ld, if_neg (by rw [F.2.1]; exact F.1)]
  exact note_out (by decide) (by decide) (by decide) (by rw [F.2.2.2]; decide)
theorem wfG_note (wf : wfG G) : nk G (nN G) = 0 ∨ 6 ≤ nN G := by
  by_cases c : 6 ≤ nN G
  · exact Or.inr c
  · left
    have n0 := wf.2.1
    have t : ∀ l, 0 ≤ l → l < 4 → tT G (nN G) l = 0 := fun l a b => (wf.2.2.2.2.2.2.1 (nN G) l n0.1 (by omega) a b).2.2 (Or.inl (Int.le_refl _))
    unfold nk
    rw [t 0 (by decide) (by decide), t 1 (by decide) (by decide), t 2 (by decide) (by decide), t 3 (by decide) (by decide)]
    decide
theorem readNote_S (p : isH h) (S : CS m B n s) (I : GI G z) (H : HC m h G z) : HRc B n h m (sNote B n G z s) (cR_readNote h m) := by
  have pr := isH_rng p
  have wf := I.1
  have cN := CH_CN wf H.1
  have hN := readNew_S p S cN (t := 1) (by decide) (by decide)
  unfold sNote cR_readNote
  cases e1 : sNew B n G 1 s with
  | inl x =>
    obtain ⟨k, q⟩ := x
    obtain ⟨m1, a1, a2, a3⟩ := hN.2 k q e1
    rw [a1, bnd_some, cW_needWord_F a2, bnd_some, show xLF = 19998 + 2 from rfl, note_F p (CN_F3 p cN a3) a2]
    exact HRc_inl a2 (CN_F3 p cN a3) (FHc_F3 a3)
  | inr L =>
    obtain ⟨m1, a1, a2, a5, a4, a3⟩ := hN.1 L e1
    obtain ⟨nl, nf, -, -, -⟩ := sNew_L S.2.1 e1
    have nf : nN G < 6 := nf
    have n0 := wf.2.1.1
    have f1 : FHc h m m1 := fun a k g1 g2 => a3 a k g1 (by omega) (by omega)
    have hW := cW_needWord_S (j := 6) (by decide) a2
    have c1 := CN_new p cN (by decide) (by decide) nf a5 a4 a3
    rw [a1, bnd_some]
    dsimp only [nlb]
    unfold wdb
    by_cases w2 : isW B n (lit 6) (nx B n (nx B n s)) = true
    · obtain ⟨m2, b1, b2, b3⟩ := hW.1 w2
      rw [if_pos w2, b1, bnd_some]
      have f2 : ∀ b k, b ≠ 3 → ¬ (b = h + 5 ∧ k = 6 * 1 + G 0 1) → ¬ (b = h + 4 ∧ k = 1) → m2 b k = m b k := fun b k x1 x2 x3 => by rw [b3 b k x1, a3 b k x1 x2 x3]
      have F2 : FHc h m m2 := FHc_trans f1 (FHc_F3 b3)
      have C2 : CH m2 h (aNm G 1 L) := CH_name p wf H.1 (Or.inl rfl) nf (by rw [ldq (b3 (h + 4) 1 (by omega)), a4]) (by rw [ldq (b3 (h + 5) _ (by omega)), a5]) f2
      have H2 : HC m2 h (aNm G 1 L) z := ⟨C2, by rw [ldq (f2 (h + 1) 2 (by omega) (by omega) (by omega)), H.2]⟩
      by_cases hl : 0 < nL G
      · have I2 := GI_note (L := L) I nf hl
        have nN2 : nN (aNm G 1 L) = nN G + 1 := by unfold nN; rw [aNm_0, if_pos rfl]
        have nL2 : nL (aNm G 1 L) = nL G := by unfold nL; rw [aNm_0, if_neg (by decide)]
        have nk2 : nk (aNm G 1 L) (nN G) = 0 := by
          rw [nk_cg (G := G) (fun l _ _ => by unfold tT; rw [aNm_x (by decide) (by decide)])]
          exact (wfG_note wf).resolve_right (by omega)
        have b0 : bc 0 = 0 := by decide
        have l4 := wf.1.2.1
        have := note_loop p (nn := nN G) n0 10 (G := aNm G 1 L) (u := 0) (g := 19999) (m := m2) (m0 := m) b2 I2 H2 (by omega) nk2 (by decide) (by rw [nL2]; exact Int.pow_pos (by decide)) (by rw [nL2, b0]; omega) (by rw [nL2, b0]; omega) F2
        rw [b0] at this
        rw [xLF_eq, cR_readNote_21, if_neg (by decide), if_pos (by rfl)]
        exact this
      · have l0 : nL G = 0 := by have := wf.1.1; omega
        have c2 := CN_F3 p c1 b3
        have hK := readKnown_S p b2 c2 (t := 0) (st := 0) (by decide) (by decide) (by decide) (by decide)
        have nL2 : aNm G 1 L 0 0 = 0 := by rw [aNm_0, if_neg (by decide)]; exact l0
        rw [xLF_eq, cR_readNote_21, if_neg (by decide), if_pos (by rfl)]
        unfold sTn cR_readNote_42 cW_faultKind cR_readNote_88
        cases e2 : sOne B n (aNm G 1 L) 0 0 (nx B n (nx B n (nx B n s))) with
        | inr k =>
          have := sOne_k (t := 0) (by omega) e2
          omega
        | inl x =>
          obtain ⟨k, q⟩ := x
          obtain ⟨r, m3, d1, d2, d3⟩ := hK.2 k q e2
          rw [d1, bnd_some, cW_needNumber_F d2, bnd_some, bnd_some, w32_ld, if_neg (by rw [d2.2.1]; exact d2.1)]
          dsimp only
          rw [show (19999 : Nat) = 19998 + 1 from rfl, note_out (by decide) (by decide) (by decide) (by rw [d2.2.2.2]; decide)]
          exact HRc_inl d2 (CN_F3 p c2 d3) (FHc_trans F2 (FHc_F3 d3))
    · obtain ⟨m2, b1, b2, b3⟩ := hW.2 (by simpa using w2)
      rw [if_neg w2, b1, bnd_some, show xLF = 19998 + 2 from rfl, note_F p (CN_F3 p c1 b3) b2]
      exact HRc_inl b2 (CN_F3 p c1 b3) (FHc_trans f1 (FHc_F3 b3))
theorem play_out {f : Nat} {v2 v3 k : Int} (hk0 : 0 ≤ k) (hk : k ≤ 9) (h0 : k ≠ 0) (hn : ld m 3 1 ≠ 1) : cR_readPlayer_21 h (f + 1) v2 v3 k m = some (0, m) := by
  rw [cR_readPlayer_21, w32_id (by omega) (by omega)]
  by_cases c : 6 < k
  · rw [if_pos c]
  · unfold cW_isAnyWord
    rw [if_neg c, if_neg h0, if_neg hn, bnd_some, if_pos (by rfl)]
theorem play_loop (p : isH h) {pp : Int} (hpp0 : 0 ≤ pp) : ∀ (f : Nat) {G : hv} {u : Int} {s : Int × Int} {g : Nat} {m : xm}, CS m B n s → GI G z → HC m h G z → pp < nP G → G 5 pp = u → 0 ≤ u → u < 2 ^ (nN G).toNat → (nN G - bc u).toNat < f → (nN G - bc u).toNat + 1 < g → FHc h m0 m → HRc B n h m0 (sPl B n z pp f G u s) (cR_readPlayer_43 h (fun v2 v3 v4 m => cR_readPlayer_21 h g v2 v3 v4 m) pp u (bc u) m)
  | 0, _, _, _, _, _, _, _, _, _, _, _, _, hf, _, _ => by omega
  | f + 1, G, u, s, g, m, S, I, H, hn, hst, u0, u1, hf, hg, hF => by
    have pr := isH_rng p
    have al := alnH p
    have wf := I.1
    have l0 := wf.2.1.1
    have l4 := wf.2.1.2
    have n6 := wf.2.2.2.1
    have p6 := p2_64 (n := nN G) (by omega)
    have b6 := bc_rng (j := u)
    have bl := bits_le l0 (by omega) u0 u1
    have cN := CH_CN wf H.1
    obtain ⟨g, rfl⟩ : ∃ g', g = g' + 1 := ⟨g - 1, by omega⟩
    have hK := readKnown_S p S cN (t := 1) (st := u) (by decide) (by decide) u0 (by omega)
    unfold sPl cR_readPlayer_43 cW_faultKind cR_readPlayer_76
    cases e1 : sOne B n G 1 u s with
    | inl x =>
      obtain ⟨k, q⟩ := x
      obtain ⟨r, m1, a1, a2, a3⟩ := hK.2 k q e1
      rw [a1, bnd_some, bnd_some, w32_ld, if_neg (by rw [a2.2.1]; exact a2.1)]
      dsimp only
      rw [play_out (by omega) (by omega) (by omega) (by rw [a2.2.2.2]; decide)]
      exact HRc_inl a2 (CN_F3 p cN a3) (FHc_trans hF (FHc_F3 a3))
    | inr l =>
      obtain ⟨m1, a1, a2, a3⟩ := hK.1 l e1
      have lk := sOne_k (t := 1) l0 e1
      have lk2 : l < nN G := lk.2.1
      have bn := bits_new l0 (by omega) u0 u1 lk.1 lk2 lk.2.2
      have e11 : ld m1 (h + 11) pp = u := by rw [ldq (a3 (h + 11) pp (by omega)), ch_pn H.1 hpp0 (by omega), hst]
      obtain ⟨m3, hm3⟩ : ∃ m3, m3 = st m1 (h + 11) pp (sb u l) := ⟨_, rfl⟩
      have bs := bor_sb u0 (show u < 64 by omega) lk.1 (show l < 6 by omega)
      have tt : cH_tellPlays h pp l m1 = some (0, m3) := by
        unfold cH_tellPlays
        rw [cell_in hpp0 (by omega), bnd_some, e11, bs, setCell_in hpp0 (by omega), bnd_some, hm3]
      have f3 : ∀ b k, b ≠ 3 → ¬ (b = h + 11 ∧ k = pp) → m3 b k = m b k := fun b k x1 x2 => by rw [hm3, st_at x2, a3 b k x1]
      have S3 : CS m3 B n (nx B n s) := CS_cg a2 (fun b k x => by rw [hm3, st_at (by omega)])
      have H3 : HC m3 h (aPy G pp (sb u l)) z := by
        refine ⟨CH_plays p H.1 ?_ f3, ?_⟩
        · rw [hm3, ld_st_eq, w32_id (by omega) (by omega)]
        · rw [ldq (f3 (h + 1) 2 (by omega) (by omega)), H.2]
      have F3' : FHc h m0 m3 := FHc_trans hF (fun b k x1 x2 => f3 b k x1 (by omega))
      have I3 := GI_plays (v := sb u l) I hpp0 hn bn.1 (by omega)
      have nN3 : nN (aPy G pp (sb u l)) = nN G := by unfold nN aPy; rw [st_at (by omega)]
      have nP3 : nP (aPy G pp (sb u l)) = nP G := by unfold nP aPy; rw [st_at (by omega)]
      rw [a1, bnd_some, bnd_some, w32_ld, if_pos a2.2.2.1, tt, bnd_some, xlt_eq, bs]
      dsimp only [nub]
      by_cases lt : ltr (see B n (tq B n (nx B n s))) = true
      · rw [if_pos lt]
        rcases ltr_kd lt with k1 | k4
        · rw [cR_readPlayer_21, w32_id (by omega) (by omega), if_neg (by omega), if_neg (by omega)]
          unfold cW_isAnyWord
          rw [if_pos (by rw [S3.2.2.2.2.1]; exact k1), bnd_some, if_neg (by decide)]
          have ih := play_loop p hpp0 f (G := aPy G pp (sb u l)) (u := sb u l) (g := g) (m := m3) S3 I3 H3 (by omega) (by unfold aPy; rw [st_eq]) bn.1 (by rw [nN3]; exact bn.2.1) (by rw [nN3, bn.2.2.1]; omega) (by rw [nN3, bn.2.2.1]; omega) F3'
          rw [bn.2.2.1] at ih
          exact ih
        · rw [play_out (by omega) (by omega) (by omega) (by rw [S3.2.2.2.2.1, k4]; decide)]
          obtain ⟨f, rfl⟩ : ∃ f', f = f' + 1 := ⟨f - 1, by omega⟩
          have e4 : sPl B n z pp (f + 1) (aPy G pp (sb u l)) (sb u l) (nx B n s) = .inl (1, tq B n (nx B n s)) := by
            unfold sPl
            rw [sOne_4 k4]
            rfl
          rw [e4]
          exact HRc_jn S3 k4 (CH_CN I3.1 H3.1) F3'
      · rw [if_neg lt, play_out (by omega) (by omega) (by omega) (by rw [S3.2.2.2.2.1]; exact fun y => lt (tkd_1.mp y).1)]
        exact HRc_inr S3 H3 F3'
theorem play_F {f : Nat} {v2 k q : Int} (p : isH h) (c : CN m h G) (F : CF m k q) : cR_readPlayer_21 h (f + 2) v2 0 0 m = some (0, m) := by
  obtain ⟨r, e⟩ := readKnown_F (st := 0) p c (t := 1) (by decide) (by decide) F
  rw [show f + 2 = (f + 1) + 1 from rfl, cR_readPlayer_21, if_neg (by decide), if_pos (by rfl)]
  unfold cR_readPlayer_43 cW_faultKind cR_readPlayer_76
  rw [e, bnd_some, bnd_some, w32_ld, if_neg (by rw [F.2.1]; exact F.1)]
  exact play_out (by decide) (by decide) (by decide) (by rw [F.2.2.2]; decide)
theorem readPlayer_S (p : isH h) (S : CS m B n s) (I : GI G z) (H : HC m h G z) : HRc B n h m (sPlayer B n G z s) (cR_readPlayer h m) := by
  have pr := isH_rng p
  have wf := I.1
  have cN := CH_CN wf H.1
  have hN := readNew_S p S cN (t := 3) (by decide) (by decide)
  unfold sPlayer cR_readPlayer
  cases e1 : sNew B n G 3 s with
  | inl x =>
    obtain ⟨k, q⟩ := x
    obtain ⟨m1, a1, a2, a3⟩ := hN.2 k q e1
    rw [a1, bnd_some, cW_needWord_F a2, bnd_some, show xLF = 19998 + 2 from rfl, play_F p (CN_F3 p cN a3) a2]
    exact HRc_inl a2 (CN_F3 p cN a3) (FHc_F3 a3)
  | inr L =>
    obtain ⟨m1, a1, a2, a5, a4, a3⟩ := hN.1 L e1
    obtain ⟨nl, nf, -, -, -⟩ := sNew_L S.2.1 e1
    have nf : nP G < 5 := nf
    have n0 := wf.2.2.2.1.1
    have f1 : FHc h m m1 := fun a k g1 g2 => a3 a k g1 (by omega) (by omega)
    have hW := cW_needWord_S (j := 23) (by decide) a2
    have c1 := CN_new p cN (by decide) (by decide) (by unfold nP at nf; omega) a5 a4 a3
    rw [a1, bnd_some]
    dsimp only [nlb]
    unfold wdb
    by_cases w2 : isW B n (lit 23) (nx B n (nx B n s)) = true
    · obtain ⟨m2, b1, b2, b3⟩ := hW.1 w2
      rw [if_pos w2, b1, bnd_some]
      have f2 : ∀ b k, b ≠ 3 → ¬ (b = h + 5 ∧ k = 6 * 3 + G 0 3) → ¬ (b = h + 4 ∧ k = 3) → m2 b k = m b k := fun b k x1 x2 x3 => by rw [b3 b k x1, a3 b k x1 x2 x3]
      have F2 : FHc h m m2 := FHc_trans f1 (FHc_F3 b3)
      have C2 : CH m2 h (aNm G 3 L) := CH_name p wf H.1 (Or.inr rfl) (by unfold nP at nf; omega) (by rw [ldq (b3 (h + 4) 3 (by omega)), a4]) (by rw [ldq (b3 (h + 5) _ (by omega)), a5]) f2
      have H2 : HC m2 h (aNm G 3 L) z := ⟨C2, by rw [ldq (f2 (h + 1) 2 (by omega) (by omega) (by omega)), H.2]⟩
      have I2 := GI_player (L := L) I nf
      have nP2 : nP (aNm G 3 L) = nP G + 1 := by unfold nP; rw [aNm_0, if_pos rfl]
      have nN2 : nN (aNm G 3 L) = nN G := by unfold nN; rw [aNm_0, if_neg (by decide)]
      have g5 : aNm G 3 L 5 (nP G) = 0 := by
        rw [aNm_x (by decide) (by decide)]
        exact I.2.2.2.2 (nP G) (Int.le_refl _) (by omega)
      have b0 : bc 0 = 0 := by decide
      have l6 := wf.2.1
      have := play_loop p (pp := nP G) n0 10 (G := aNm G 3 L) (u := 0) (g := 19999) (m := m2) (m0 := m) b2 I2 H2 (by omega) g5 (by decide) (by rw [nN2]; exact Int.pow_pos (by decide)) (by rw [nN2, b0]; omega) (by rw [nN2, b0]; omega) F2
      rw [b0] at this
      rw [xLF_eq, cR_readPlayer_21, if_neg (by decide), if_pos (by rfl)]
      exact this
    · obtain ⟨m2, b1, b2, b3⟩ := hW.2 (by simpa using w2)
      rw [if_neg w2, b1, bnd_some, show xLF = 19998 + 2 from rfl, play_F p (CN_F3 p c1 b3) b2]
      exact HRc_inl b2 (CN_F3 p c1 b3) (FHc_trans f1 (FHc_F3 b3))
theorem door_tail (p : isH h) {k q v1 v2 v3 : Int} (F : CF m k q) (c : CN m h G) (f : FHc h m0 m) : HRc B n h m0 (.inl (k, q)) (bnd (cH_tellDoor h v1 v2 v3 m) fun r11 m12 => some (0, m12)) := by
  have pr := isH_rng p
  obtain ⟨m1, a1, a2⟩ := setCell_any (m := m) (a := h + 12) (k := v1) (v := v2)
  obtain ⟨m2, b1, b2⟩ := setCell_any (m := m1) (a := h + 13) (k := v1) (v := v3)
  unfold cH_tellDoor
  rw [a1, bnd_some, b1, bnd_some, bnd_some]
  exact HRc_inl (CF_cg F (fun a j g => by rw [b2 a j (by omega), a2 a j (by omega)])) (CN_cg c (fun j => by rw [b2 _ j (by omega), a2 _ j (by omega)]) (fun j => by rw [b2 _ j (by omega), a2 _ j (by omega)])) (FHc_trans f (fun a j g1 g2 => by rw [b2 a j (by omega), a2 a j (by omega)]))
theorem readDoor_S (p : isH h) (S : CS m B n s) (I : GI G z) (H : HC m h G z) (hzs : z ≤ s.1) : HRc B n h m (sDoor B n G z s) (cR_readDoor h m) := by
  have pr := isH_rng p
  have al := alnH p
  have pc := isC_H p
  obtain ⟨wf, wD, h7, hz, h5⟩ := I
  have cN := CH_CN wf H.1
  have n16 := S.1.2.2.1
  have hN := readNew_S p S cN (t := 2) (by decide) (by decide)
  -- behind a fault
  have bad : ∀ {m' : xm} {k q v1 : Int} {G' : hv}, CF m' k q → CN m' h G' → FHc h m m' → HRc B n h m (.inl (k, q)) (bnd (cC_size (h + 1) m') fun r5 m6 => bnd (cX_rec 100 0 5 (h + 1) 0 0 m6) fun r7 m8 => bnd (cC_size (h + 1) m8) fun r9 m10 => bnd (cH_tellDoor h v1 r5 r9 m10) fun r11 m12 => some (0, m12)) := by
    intro m' k q v1 G' F c f
    obtain ⟨m2, b1, b2, b3⟩ := cX_F (t := 5) pc 100 0 (o := 0) (a := 0) (by decide) (by decide) (by decide) F
    unfold cC_size
    rw [bnd_some, b1, bnd_some, bnd_some]
    exact door_tail p b2 (CN_cg c (fun j => b3 _ j (by omega) (by omega) (by omega)) (fun j => b3 _ j (by omega) (by omega) (by omega))) (FHc_trans f (fun a j g1 g2 => b3 a j g1 (by omega) (by omega)))
  unfold sDoor cR_readDoor
  cases e1 : sNew B n G 2 s with
  | inl x =>
    obtain ⟨k, q⟩ := x
    obtain ⟨m1, a1, a2, a3⟩ := hN.2 k q e1
    rw [a1, bnd_some, cW_needWord_F a2, bnd_some]
    exact bad a2 (CN_F3 p cN a3) (FHc_F3 a3)
  | inr L =>
    obtain ⟨m1, a1, a2, a5, a4, a3⟩ := hN.1 L e1
    obtain ⟨nl, nf, kd2, -, -⟩ := sNew_L S.2.1 e1
    have nf : nD G < 6 := nf
    have f1 : FHc h m m1 := fun a k g1 g2 => a3 a k g1 (by omega) (by omega)
    have hW := cW_needWord_S (j := 8) (by decide) a2
    have c1 := CN_new p cN (by decide) (by decide) nf a5 a4 a3
    rw [a1, bnd_some]
    dsimp only [nlb]
    unfold wdb
    by_cases w2 : isW B n (lit 8) (nx B n (nx B n s)) = false
    · obtain ⟨m2, b1, b2, b3⟩ := hW.2 w2
      rw [if_neg (bF w2), b1, bnd_some]
      exact bad b2 (CN_F3 p c1 b3) (FHc_trans f1 (FHc_F3 b3))
    have w2 : isW B n (lit 8) (nx B n (nx B n s)) = true := by simpa using w2
    obtain ⟨m2, b1, b2, b3⟩ := hW.1 w2
    have g3 : s.1 ≤ (nx B n (nx B n (nx B n s))).1 := by
      have o1 := okT_nx (B := B) S.2.1
      have o2 := okT_nx (B := B) o1
      have := nx_ge (B := B) S.2.1
      have := nx_ge (B := B) o1
      have := nx_ge (B := B) o2
      omega
    have f2 : ∀ b k, b ≠ 3 → ¬ (b = h + 5 ∧ k = 6 * 2 + G 0 2) → ¬ (b = h + 4 ∧ k = 2) → m2 b k = m b k := fun b k x1 x2 x3 => by rw [b3 b k x1, a3 b k x1 x2 x3]
    have F2 : FHc h m m2 := FHc_trans f1 (FHc_F3 b3)
    have ez : ld m2 (h + 1) 2 = z := by rw [ldq (f2 (h + 1) 2 (by omega) (by omega) (by omega)), H.2]
    obtain ⟨L0, hL0⟩ : ∃ L0, L0 = sgm (fun k => ld m2 (h + 2) k) 0 z := ⟨_, rfl⟩
    have l0 : L0.length = z.toNat := by rw [hL0, sgm_len, Int.sub_zero]
    have D2 : CD m2 (h + 1) L0 := ⟨by rw [ez, l0]; omega, fun i hi => by rw [hL0, sgm_at _ _ _ _ (by omega), Int.zero_add], by omega⟩
    have CX := cX_S (B := B) (n := n) (c := h + 1) (t := 5) (q := false) pc rfl n16 100 0 (o := 0) (a := 0) b2 D2 (by omega) (by decide) (by decide) (by decide) (tA (by decide) (by decide))
    rw [if_pos w2, b1, bnd_some]
    have cs : ∀ m', cC_size (h + 1) m' = some (ld m' (h + 1) 2, m') := fun _ => rfl
    rw [cs, bnd_some, ez]
    cases e2 : sp B n false 100 0 0 0 (nx B n (nx B n (nx B n s))) with
    | inl x =>
      obtain ⟨k, q⟩ := x
      obtain ⟨m3, d1, d2, d3⟩ := CX.2 k q e2
      rw [d1, bnd_some, cs, bnd_some]
      exact door_tail p d2 (CN_cg (CN_F3 p c1 b3) (fun j => d3 _ j (by omega) (by omega) (by omega)) (fun j => d3 _ j (by omega) (by omega) (by omega))) (FHc_trans F2 (fun a j g1 g2 => d3 a j g1 (by omega) (by omega)))
    | inr x =>
      obtain ⟨s', C⟩ := x
      obtain ⟨m3, d1, d2, d3, d4⟩ := CX.1 s' C e2
      have gg := sp_gd 100 0 b2.2.1 (by decide) (by decide) (tA (by decide) (by decide)) s' C e2
      have o3 := gg.1.2.1
      have lC : ((L0 ++ C).length : Int) = z + (C.length : Int) := by rw [List.length_append, l0]; omega
      have nd0 := wf.2.2.1.1
      have n0 : nD G = G 0 2 := rfl
      rw [d1, bnd_some, cs, bnd_some, d3.1, lC]
      dsimp only [dbd]
      unfold cH_tellDoor
      rw [setCell_in (by omega) (by omega), bnd_some, setCell_in (by omega) (by omega), bnd_some, bnd_some]
      have f4 : ∀ b k, b ≠ 3 → ¬ (b = h + 5 ∧ k = 12 + nD G) → ¬ (b = h + 4 ∧ k = 2) → ¬ (b = h + 12 ∧ k = nD G) → ¬ (b = h + 13 ∧ k = nD G) → b ≠ h + 2 → ¬ (b = h + 1 ∧ k = 2) → st (st m3 (h + 12) (G 0 2) z) (h + 13) (G 0 2) (z + (C.length : Int)) b k = m b k := by
        intro b k x1 x2 x3 x4 x5 x6 x7
        rw [st_at (by omega), st_at (by omega), d4 b k x1 (by omega) (by omega), f2 b k x1 (by omega) (by omega)]
      refine HRc_inr (CS_cg d2 (fun b k x => by rw [st_at (by omega), st_at (by omega)])) ⟨CH_door p wf H.1 h7 nf hz.1 ?_ ?_ ?_ ?_ ?_ wD f4, ?_⟩ ?_
      · rw [ld_st_nc (by omega), ld_st_nc (by omega), ldq (d4 (h + 4) 2 (by omega) (by omega) (by omega)), ldq (b3 (h + 4) 2 (by omega)), a4]; rfl
      · rw [ld_st_nc (by omega), ld_st_nc (by omega), ldq (d4 (h + 5) _ (by omega) (by omega) (by omega)), ldq (b3 (h + 5) _ (by omega))]
        exact a5
      · rw [ld_st_nc (by omega), n0, ld_st_eq, w32_id (by omega) (by omega)]
      · rw [n0, ld_st_eq, w32_id (by omega) (by omega)]
      · intro k x1 x2
        have q := d3.2.1 k.toNat (by omega)
        rw [Int.toNat_of_nonneg x1] at q
        rw [ld_st_nc (by omega), ld_st_nc (by omega), q]
        by_cases y : z ≤ k
        · rw [if_pos y, List.getD_eq_getElem?_getD, List.getElem?_append_right (by omega), List.getD_eq_getElem?_getD, l0, show k.toNat - z.toNat = (k - z).toNat by omega]
        · rw [if_neg y, List.getD_eq_getElem?_getD, List.getElem?_append_left (by omega), ← List.getD_eq_getElem?_getD, hL0, sgm_at _ _ _ _ (by omega), Int.zero_add, Int.toNat_of_nonneg x1]
          exact ldq (f2 (h + 2) k (by omega) (by omega) (by omega))
      · rw [ld_st_nc (by omega), ld_st_nc (by omega), d3.1, lC]
      · intro b k x1 x2
        exact f4 b k x1 (by omega) (by omega) (by omega) (by omega) (by omega) (by omega)
theorem readRust_S (p : isH h) (S : CS m B n s) (I : GI G z) (H : HC m h G z) : HRc B n h m (sRust B n G z s) (bnd (cW_needWord 24 m) fun r11 m12 => bnd (cW_needNumber 0 100 m12) fun r13 m14 => cH_tellRust h r13 m14) := by
  have pr := isH_rng p
  have cN := CH_CN I.1 H.1
  have hW := cW_needWord_S (j := 24) (by decide) S
  have bad : ∀ {m' : xm} {k q v : Int}, CF m' k q → F3 m m' → HRc B n h m (.inl (k, q)) (cH_tellRust h v m') := by
    intro m' k q v F f
    unfold cH_tellRust
    rw [stf_eq]
    exact HRc_inl (CF_cg F (fun a j g => st_at (by omega))) (CN_cg (CN_F3 p cN f) (fun j => st_at (by omega)) (fun j => st_at (by omega))) (fun a j g1 g2 => by rw [st_at (by omega), f a j g1])
  unfold sRust wdb
  by_cases w2 : isW B n (lit 24) s = false
  · obtain ⟨m2, b1, b2, b3⟩ := hW.2 w2
    rw [if_neg (bF w2), b1, bnd_some, cW_needNumber_F b2, bnd_some]
    exact bad b2 b3
  have w2 : isW B n (lit 24) s = true := by simpa using w2
  obtain ⟨m2, b1, b2, b3⟩ := hW.1 w2
  have hU := cW_needNumber_S (lo := 0) (hi := 100) b2 (by decide) (by decide) ⟨by decide, by decide⟩
  rw [if_pos w2, b1, bnd_some]
  cases e2 : sNum B n 0 100 (nx B n s) with
  | inl x =>
    obtain ⟨k, q⟩ := x
    obtain ⟨m3, d1, d2, d3⟩ := hU.2 k q e2
    rw [d1, bnd_some]
    exact bad d2 (F3_trans b3 d3)
  | inr v =>
    obtain ⟨m3, d1, d2, d3⟩ := hU.1 v e2
    have vr := sNum_rng e2
    rw [d1, bnd_some]
    dsimp only [nub]
    unfold cH_tellRust
    rw [stf_eq]
    have f3 := F3_trans b3 d3
    refine HRc_inr (CS_cg d2 (fun a j g => st_at (by omega))) ⟨CH_rust p H.1 (by rw [ld_st_eq, w32_id (by omega) (by omega)]) (fun b k x1 x2 => by rw [st_at x2, f3 b k x1]), ?_⟩ (fun b k x1 x2 => by rw [st_at (by omega), f3 b k x1])
    rw [ld_st_nc (by omega), ldq (f3 (h + 1) 2 (by omega)), H.2]
end STN
