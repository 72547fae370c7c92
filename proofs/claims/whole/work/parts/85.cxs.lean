/-! the program reads tests and sums as they are told: the whole -/
def nee (g : Nat) (o : Int) : Int := (if g = 0 then 7 else if g = 1 then 6 else if g = 2 then 5 else if g = 3 then 4 else if g = 4 then 3 else if g = 5 then 2 else 1) + 8 * (6 - o)
theorem nee0 (o : Int) : nee 0 o = 7 + 8 * (6 - o) := rfl
theorem nee1 (o : Int) : nee 1 o = 6 + 8 * (6 - o) := rfl
theorem nee2 (o : Int) : nee 2 o = 5 + 8 * (6 - o) := rfl
theorem nee3 (o : Int) : nee 3 o = 4 + 8 * (6 - o) := rfl
theorem nee4 (o : Int) : nee 4 o = 3 + 8 * (6 - o) := rfl
theorem nee5 (o : Int) : nee 5 o = 2 + 8 * (6 - o) := rfl
theorem nee6 (o : Int) : nee 6 o = 1 + 8 * (6 - o) := rfl
theorem nee7 (o : Int) : nee 7 o = 1 + 8 * (6 - o) := rfl
section CXS
variable {B : Int → Int} {n : Int} {c t : Nat} {q : Bool}
theorem CR_needSign {m0 m : xm} {s : Int × Int} {L : List Int} {ch : Int} {f : (Int × Int) → PRS} {K : Int → xm → xr} (pc : isC c) (hc : rg ch) (S : CS m B n s) (hf : FC c m0 m)
    (ok : ∀ m', isG B n ch s = true → CS m' B n (nx B n s) → F3 m m' → CR B n c m0 L (f (nx B n s)) (K 0 m'))
    (bad : ∀ k p m', CF m' k p → FC c m0 m' → CR B n c m0 L (.inl (k, p)) (K 0 m')) : CR B n c m0 L (ndG B n ch s f) (bnd (cW_needSign ch m) K) := by
  have h := cW_needSign_S hc S
  unfold ndG
  by_cases d : isG B n ch s = true
  · obtain ⟨m', a1, a2, a3⟩ := h.1 d
    rw [if_pos d, a1, bnd_some]
    exact ok m' d a2 a3
  · obtain ⟨m', a1, a2, a3⟩ := h.2 (by simpa using d)
    rw [if_neg d, a1, bnd_some]
    exact bad 1 _ m' a2 (FC_trans hf (FC_F3 a3))
theorem CR_opens {m0 m : xm} {s : Int × Int} {L : List Int} {o : Int} {f : (Int × Int) → PRS} {K : xm → xr} (S : CS m B n s) (hf : FC c m0 m) (h0 : 0 ≤ o) (h6 : o ≤ 6)
    (ok : ∀ m', o < 6 → CS m' B n (nx B n s) → F3 m m' → CR B n c m0 L (f (nx B n s)) (K m')) : CR B n c m0 L (opo B n o s f) (bnd (cX_opensOneMore t o m) fun r m2 => if w32 r = 0 then some (0, m2) else K m2) := by
  have h := opens_S (t := t) S h0 h6
  unfold opo
  by_cases d : o < 6
  · obtain ⟨m', a1, a2, a3⟩ := h.1 d
    rw [if_pos d, a1, bnd_some, if_neg (by decide)]
    exact ok m' d a2 a3
  · obtain ⟨m', a1, a2, a3⟩ := h.2 d
    rw [if_neg d, a1, bnd_some, if_pos (by rfl)]
    exact CR_inl a2 (FC_trans hf (FC_F3 a3))
theorem CR_F {m0 m : xm} {L : List Int} {k p o a : Int} {f g : Nat} {K : Int → xm → xr} (pc : isC c) (hg : g ≤ 6) (h6 : 6 ≤ f + g) (h1 : 1 ≤ f) (F : CF m k p) (hf : FC c m0 m) (bad : ∀ m', CF m' k p → FC c m0 m' → CR B n c m0 L (.inl (k, p)) (K 0 m')) : CR B n c m0 L (.inl (k, p)) (bnd (cX_rec f g t c o a m) K) := by
  obtain ⟨m', a1, a2, a3⟩ := cX_F (t := t) pc f g (o := o) (a := a) hg h6 h1 F
  rw [a1, bnd_some]
  exact bad m' a2 (FC_trans hf a3)
theorem rgc {t : Int} (h1 : 0 ≤ t) (h2 : t ≤ 20000) : rg t := ⟨by omega, by omega⟩
theorem cX_S (pc : isC c) (hq : tol t = if q = true then 1 else 0) (hn : n ≤ 1600) : ∀ (f g : Nat) {o a : Int} {m : xm} {s : Int × Int} {L : List Int}, CS m B n s → CD m c L → (L.length : Int) ≤ s.1 → 0 ≤ o → o ≤ 6 → nee g o < (f : Int) → tagA B n q g a s → CR B n c m L (sp B n q f g o a s) (cX_rec f g t c o a m)
  | 0, g, o, _, _, _, _, _, _, _, h0, h6, hf, _ => by
    exfalso
    unfold nee at hf
    revert hf
    (repeat' split) <;> omega
  | f + 1, 0, o, a, m, s, L, S, hd, hl, h0, h6, hf, _ => by
    rw [nee0] at hf
    have IH := fun {m : xm} {s : Int × Int} {L : List Int} (S : CS m B n s) (hd : CD m c L) (hl : (L.length : Int) ≤ s.1) => cX_S pc hq hn f 1 (o := o) (a := 0) S hd hl h0 h6 (by rw [nee1]; omega) (tA (by decide) (by decide))
    unfold sp cX_rec cX_readTest0
    refine CR_bnd FC_refl (IH S hd hl) ?_ ?_
    · intro s1 C1 m1 e1 b1 b2 b3
      obtain ⟨g1, g2, g3, g4⟩ := sp_gd f 1 S.2.1 h0 h6 (tA (by decide) (by decide)) s1 C1 e1
      exact CR_lp (TK := fun m K => bnd (cW_takeWord 21 m) fun r m2 => if w32 r = 0 then some (0, m2) else K 10020 m2) (S := fun m => cX_rec f 1 t c o 0 m) (LOOP := fun g k m => cX_readTest_8 (cX_rec f) t c g o k m) pc hn (fun f k m => by rw [cX_readTest_8])
        (fun {m s K} z => by
          have h := cW_takeWord_S (j := 21) (by decide) z
          unfold tkW
          constructor
          · intro y
            split at y
            · cases y
            · next d => rw [h.2 (by simpa using d), bnd_some, if_pos (by rfl)]
          · intro t y
            split at y
            · next d =>
              cases y
              obtain ⟨m', a1, a2, a3⟩ := h.1 d
              exact ⟨m', by rw [a1, bnd_some, if_neg (by decide)], a2, a3⟩
            · cases y)
        (fun {m K k p} z => by rw [cW_takeWord_F z, bnd_some, if_pos (by rfl)])
        (fun s t z => ⟨(tkW_t z).1, by rw [(tkW_t z).2]; exact rgc (by decide) (by decide)⟩) IH
        (fun s s' C z y => by have := sp_gd f 1 z h0 h6 (tA (by decide) (by decide)) s' C y; exact ⟨this.1, this.2.1, this.2.2.1⟩)
        1700 b1 b2 b3 (by rw [List.length_append]; omega) (by omega) (by have := g1.1; omega) (by have := g1.1; omega) (by have := g1.1; rw [xLF_eq]; omega)
    · intro k p m1 b1 b2
      rw [xLF_eq, (wl_F b1).1]
      exact CR_inl b1 b2
  | f + 1, 1, o, a, m, s, L, S, hd, hl, h0, h6, hf, _ => by
    rw [nee1] at hf
    have IH := fun {m : xm} {s : Int × Int} {L : List Int} (S : CS m B n s) (hd : CD m c L) (hl : (L.length : Int) ≤ s.1) => cX_S pc hq hn f 2 (o := o) (a := 0) S hd hl h0 h6 (by rw [nee2]; omega) (tA (by decide) (by decide))
    unfold sp cX_rec cX_readBoth0
    refine CR_bnd FC_refl (IH S hd hl) ?_ ?_
    · intro s1 C1 m1 e1 b1 b2 b3
      obtain ⟨g1, g2, g3, g4⟩ := sp_gd f 2 S.2.1 h0 h6 (tA (by decide) (by decide)) s1 C1 e1
      exact CR_lp (TK := fun m K => bnd (cW_takeWord 20 m) fun r m2 => if w32 r = 0 then some (0, m2) else K 10021 m2) (S := fun m => cX_rec f 2 t c o 0 m) (LOOP := fun g k m => cX_readBoth_8 (cX_rec f) t c g o k m) pc hn (fun f k m => by rw [cX_readBoth_8])
        (fun {m s K} z => by
          have h := cW_takeWord_S (j := 20) (by decide) z
          unfold tkW
          constructor
          · intro y
            split at y
            · cases y
            · next d => rw [h.2 (by simpa using d), bnd_some, if_pos (by rfl)]
          · intro t y
            split at y
            · next d =>
              cases y
              obtain ⟨m', a1, a2, a3⟩ := h.1 d
              exact ⟨m', by rw [a1, bnd_some, if_neg (by decide)], a2, a3⟩
            · cases y)
        (fun {m K k p} z => by rw [cW_takeWord_F z, bnd_some, if_pos (by rfl)])
        (fun s t z => ⟨(tkW_t z).1, by rw [(tkW_t z).2]; exact rgc (by decide) (by decide)⟩) IH
        (fun s s' C z y => by have := sp_gd f 2 z h0 h6 (tA (by decide) (by decide)) s' C y; exact ⟨this.1, this.2.1, this.2.2.1⟩)
        1700 b1 b2 b3 (by rw [List.length_append]; omega) (by omega) (by have := g1.1; omega) (by have := g1.1; omega) (by have := g1.1; rw [xLF_eq]; omega)
    · intro k p m1 b1 b2
      rw [xLF_eq, (wl_F b1).2.1]
      exact CR_inl b1 b2
  | f + 1, 2, o, a, m, s, L, S, hd, hl, h0, h6, hf, _ => by
    rw [nee2] at hf
    have p3 := isC_3 pc
    have ok := S.2.1
    unfold sp cX_rec cX_readFact0
    rw [cW_isWord_S (by decide) S, bnd_some, i01]
    by_cases c1 : isW B n (lit 9) s = true
    · rw [if_pos c1, if_pos c1, if_neg (by decide)]
      refine CR_opens S FC_refl h0 h6 (fun m1 o6 a2 a3 => ?_)
      have gt := isW_gt ok c1
      refine CR_bnd (FC_F3 a3) (cX_S pc hq hn f 2 (o := o + 1) (a := 0) a2 (CD_F3 pc hd a3) (by omega) (by omega) (by omega) (by rw [nee2]; omega) (tA (by decide) (by decide))) ?_ ?_
      · intro s1 C1 m2 e1 b1 b2 b3
        obtain ⟨g1, g2, g3, g4⟩ := sp_gd f 2 a2.2.1 (show 0 ≤ o + 1 by omega) (by omega) (tA (by decide) (by decide)) s1 C1 e1
        exact CR_add pc b1 b2 b3 (by rw [List.length_append]; have := g1.2.1; omega) (rgc (by decide) (by decide)) rfl
      · intro k p m2 b1 b2
        obtain ⟨m3, d1, d2, d3⟩ := CR_badd (L := L) (t := 10010) pc b1 b2
        rw [d1, bnd_some]
        exact CR_inl d2 d3
    rw [if_neg c1, if_neg c1, if_pos rfl, cW_isSign_S (rgc (by decide) (by decide)) S, bnd_some, i01]
    by_cases c2 : isG B n 91 s = true
    · rw [if_pos c2, if_pos c2, if_neg (by decide)]
      refine CR_opens S FC_refl h0 h6 (fun m1 o6 a2 a3 => ?_)
      have gt := isG_gt ok c2
      refine CR_bnd (FC_F3 a3) (cX_S pc hq hn f 0 (o := o + 1) (a := 0) a2 (CD_F3 pc hd a3) (by omega) (by omega) (by omega) (by rw [nee0]; omega) (tA (by decide) (by decide))) ?_ ?_
      · intro s1 C1 m2 e1 b1 b2 b3
        exact CR_needSign pc (rgc (by decide) (by decide)) b1 b3 (fun m3 _ k1 k2 => CR_inr k1 (CD_F3 pc b2 k2) (FC_trans b3 (FC_F3 k2))) (fun k p m3 k1 k2 => CR_inl k1 k2)
      · intro k p m2 b1 b2
        rw [cW_needSign_F b1, bnd_some]
        exact CR_inl b1 b2
    rw [if_neg c2, if_neg c2, if_pos rfl]
    have hw := cW_takeWord_S (j := 10) (by decide) S
    by_cases c3 : isW B n (lit 10) s = true
    · obtain ⟨m1, a1, a2, a3⟩ := hw.1 c3
      have gt := isW_gt ok c3
      rw [if_pos c3, a1, bnd_some, if_neg (by decide)]
      have hd1 := CD_F3 pc hd a3
      rw [← List.append_nil L] at hd1
      exact CR_add pc a2 hd1 (FC_F3 a3) (by rw [List.append_nil]; have := a2.2.1.2.1; omega) (rgc (by decide) (by decide)) rfl
    · rw [if_neg c3, hw.2 (by simpa using c3), bnd_some, if_pos (show w32 0 = 0 by rfl)]
      refine CR_bnd FC_refl (cX_S pc hq hn f 3 (o := o) (a := 0) S hd hl h0 h6 (by rw [nee3]; omega) (tA (by decide) (by decide))) ?_ ?_
      · intro s1 C1 m1 e1 b1 b2 b3
        obtain ⟨g1, g2, g3, g4⟩ := sp_gd f 3 ok h0 h6 (tA (by decide) (by decide)) s1 C1 e1
        have hc := cmp_S (t := t) b1
        cases ec : cmpt B n s1 with
        | none =>
          obtain ⟨m2, k1, k2, k3⟩ := hc.2 ec
          rw [k1, bnd_some]
          exact CR_F pc (by decide) (by omega) (by omega) k2 (FC_trans b3 (FC_F3 k3)) (fun m3 y1 y2 => by
            obtain ⟨m4, d1, d2, d3⟩ := CR_badd (L := L) (t := 10024) pc y1 y2
            rw [d1, bnd_some]
            exact CR_inl d2 d3)
        | some v =>
          obtain ⟨m2, k1, k2, k3⟩ := hc.1 v ec
          obtain ⟨t1, t2⟩ := cmpt_t ec
          have gt := nx_gt g1 (show tkd B n s1 ≠ 0 by rw [t1]; decide)
          rw [k1, bnd_some]
          dsimp only [obd]
          refine CR_bnd (FC_trans b3 (FC_F3 k3)) (cX_S pc hq hn f 3 (o := o) (a := 0) k2 (CD_F3 pc b2 k3) (by rw [List.length_append]; omega) h0 h6 (by rw [nee3]; omega) (tA (by decide) (by decide))) ?_ ?_
          · intro s2 C2 m3 e2 y1 y2 y3
            obtain ⟨z1, z2, z3, z4⟩ := sp_gd f 3 k2.2.1 h0 h6 (tA (by decide) (by decide)) s2 C2 e2
            rw [List.append_assoc] at y2
            exact CR_add pc y1 y2 y3 (by rw [List.length_append, List.length_append]; have := z1.2.1; omega) (by rcases t2 with rfl | rfl | rfl <;> exact rgc (by decide) (by decide)) (by rw [List.append_assoc])
          · intro k p m3 y1 y2
            obtain ⟨m4, d1, d2, d3⟩ := CR_badd (L := L) (t := v) pc y1 y2
            rw [d1, bnd_some]
            exact CR_inl d2 d3
      · intro k p m1 b1 b2
        rw [cmp_F b1, bnd_some]
        exact CR_F pc (by decide) (by omega) (by omega) b1 b2 (fun m3 y1 y2 => by
          obtain ⟨m4, d1, d2, d3⟩ := CR_badd (L := L) (t := 10024) pc y1 y2
          rw [d1, bnd_some]
          exact CR_inl d2 d3)
  | f + 1, 3, o, a, m, s, L, S, hd, hl, h0, h6, hf, _ => by
    rw [nee3] at hf
    have IH := fun {m : xm} {s : Int × Int} {L : List Int} (S : CS m B n s) (hd : CD m c L) (hl : (L.length : Int) ≤ s.1) => cX_S pc hq hn f 4 (o := o) (a := 0) S hd hl h0 h6 (by rw [nee4]; omega) (tA (by decide) (by decide))
    unfold sp cX_rec cX_readSum0
    refine CR_bnd FC_refl (IH S hd hl) ?_ ?_
    · intro s1 C1 m1 e1 b1 b2 b3
      obtain ⟨g1, g2, g3, g4⟩ := sp_gd f 4 S.2.1 h0 h6 (tA (by decide) (by decide)) s1 C1 e1
      exact CR_lp (TK := fun m K => bnd (cX_takeEither t 43 10030 45 10031 m) fun r m2 => if w32 r = -1 then some (0, m2) else K r m2) (S := fun m => cX_rec f 4 t c o 0 m) (LOOP := fun g k m => cX_readSum_8 (cX_rec f) t c g o k m) pc hn (fun f k m => by rw [cX_readSum_8])
        (fun {m s K} z => by
          have h := eith_S (t := t) (c1 := 43) (t1 := 10030) (c2 := 45) (t2 := 10031) z (rgc (by decide) (by decide)) (rgc (by decide) (by decide)) (by decide) (by decide) (by decide)
          constructor
          · intro y
            rw [h.1 y, bnd_some, if_pos (by rfl)]
          · intro v y
            obtain ⟨m', a1, a2, a3⟩ := h.2 v y
            exact ⟨m', by rw [a1, bnd_some, if_neg (by rcases (tkG_t y).2 with rfl | rfl <;> decide)], a2, a3⟩)
        (fun {m K k p} z => by rw [eith_F z, bnd_some, if_pos (by rfl)])
        (fun s t z => ⟨(tkG_t z).1, by rcases (tkG_t z).2 with rfl | rfl <;> exact rgc (by decide) (by decide)⟩) IH
        (fun s s' C z y => by have := sp_gd f 4 z h0 h6 (tA (by decide) (by decide)) s' C y; exact ⟨this.1, this.2.1, this.2.2.1⟩)
        1700 b1 b2 b3 (by rw [List.length_append]; omega) (by omega) (by have := g1.1; omega) (by have := g1.1; omega) (by have := g1.1; rw [xLF_eq]; omega)
    · intro k p m1 b1 b2
      rw [xLF_eq, (wl_F b1).2.2.1]
      exact CR_inl b1 b2
  | f + 1, 4, o, a, m, s, L, S, hd, hl, h0, h6, hf, _ => by
    rw [nee4] at hf
    have IH := fun {m : xm} {s : Int × Int} {L : List Int} (S : CS m B n s) (hd : CD m c L) (hl : (L.length : Int) ≤ s.1) => cX_S pc hq hn f 5 (o := o) (a := 0) S hd hl h0 h6 (by rw [nee5]; omega) (tA (by decide) (by decide))
    unfold sp cX_rec cX_readProduct0
    refine CR_bnd FC_refl (IH S hd hl) ?_ ?_
    · intro s1 C1 m1 e1 b1 b2 b3
      obtain ⟨g1, g2, g3, g4⟩ := sp_gd f 5 S.2.1 h0 h6 (tA (by decide) (by decide)) s1 C1 e1
      exact CR_lp (TK := fun m K => bnd (cX_takeEither t 42 10032 47 10033 m) fun r m2 => if w32 r = -1 then some (0, m2) else K r m2) (S := fun m => cX_rec f 5 t c o 0 m) (LOOP := fun g k m => cX_readProduct_8 (cX_rec f) t c g o k m) pc hn (fun f k m => by rw [cX_readProduct_8])
        (fun {m s K} z => by
          have h := eith_S (t := t) (c1 := 42) (t1 := 10032) (c2 := 47) (t2 := 10033) z (rgc (by decide) (by decide)) (rgc (by decide) (by decide)) (by decide) (by decide) (by decide)
          constructor
          · intro y
            rw [h.1 y, bnd_some, if_pos (by rfl)]
          · intro v y
            obtain ⟨m', a1, a2, a3⟩ := h.2 v y
            exact ⟨m', by rw [a1, bnd_some, if_neg (by rcases (tkG_t y).2 with rfl | rfl <;> decide)], a2, a3⟩)
        (fun {m K k p} z => by rw [eith_F z, bnd_some, if_pos (by rfl)])
        (fun s t z => ⟨(tkG_t z).1, by rcases (tkG_t z).2 with rfl | rfl <;> exact rgc (by decide) (by decide)⟩) IH
        (fun s s' C z y => by have := sp_gd f 5 z h0 h6 (tA (by decide) (by decide)) s' C y; exact ⟨this.1, this.2.1, this.2.2.1⟩)
        1700 b1 b2 b3 (by rw [List.length_append]; omega) (by omega) (by have := g1.1; omega) (by have := g1.1; omega) (by have := g1.1; rw [xLF_eq]; omega)
    · intro k p m1 b1 b2
      rw [xLF_eq, (wl_F b1).2.2.2]
      exact CR_inl b1 b2
  | f + 1, 5, o, a, m, s, L, S, hd, hl, h0, h6, hf, _ => by
    rw [nee5] at hf
    have ok := S.2.1
    have ke := S.2.2.2.2.1
    unfold sp cX_rec cX_readPart0 cW_isAnyNumber
    rw [ke]
    by_cases c0 : tkd B n s = 2
    · have hN := cW_needNumber_S (lo := 0) (hi := 9999) S (by decide) (by decide) (rgc (by decide) (by decide))
      have gt := nx_gt ok (show tkd B n s ≠ 0 by rw [c0]; decide)
      rw [if_pos c0, if_pos c0, bnd_some, if_neg (by decide)]
      cases eN : sNum B n 0 9999 s with
      | inl x =>
        obtain ⟨k, p⟩ := x
        obtain ⟨m1, a1, a2, a3⟩ := hN.2 k p eN
        obtain ⟨m4, d1, d2, d3⟩ := CR_badd (L := L) (t := 0) pc a2 (FC_F3 (c := c) a3)
        rw [a1, bnd_some, d1, bnd_some]
        exact CR_inl d2 d3
      | inr v =>
        obtain ⟨m1, a1, a2, a3⟩ := hN.1 v eN
        have r := sNum_rng eN
        rw [a1, bnd_some]
        have hd1 := CD_F3 pc hd a3
        rw [← List.append_nil L] at hd1
        exact CR_add pc a2 hd1 (FC_F3 a3) (by rw [List.append_nil]; have := a2.2.1.2.1; omega) (rgc (by omega) (by omega)) rfl
    rw [if_neg c0, if_neg c0, bnd_some, if_pos (show w32 0 = 0 by rfl), cW_isSign_S (rgc (by decide) (by decide)) S, bnd_some, i01]
    by_cases c1 : isG B n 40 s = true
    · rw [if_pos c1, if_pos c1, if_neg (by decide)]
      refine CR_opens S FC_refl h0 h6 (fun m1 o6 a2 a3 => ?_)
      have gt := isG_gt ok c1
      refine CR_bnd (FC_F3 a3) (cX_S pc hq hn f 3 (o := o + 1) (a := 0) a2 (CD_F3 pc hd a3) (by omega) (by omega) (by omega) (by rw [nee3]; omega) (tA (by decide) (by decide))) ?_ ?_
      · intro s1 C1 m2 e1 b1 b2 b3
        exact CR_needSign pc (rgc (by decide) (by decide)) b1 b3 (fun m3 _ k1 k2 => CR_inr k1 (CD_F3 pc b2 k2) (FC_trans b3 (FC_F3 k2))) (fun k p m3 k1 k2 => CR_inl k1 k2)
      · intro k p m2 b1 b2
        rw [cW_needSign_F b1, bnd_some]
        exact CR_inl b1 b2
    rw [if_neg c1, if_neg c1, if_pos rfl]
    have hw := cW_takeWord_S (j := 11) (by decide) S
    by_cases c2 : isW B n (lit 11) s = true
    · obtain ⟨m1, a1, a2, a3⟩ := hw.1 c2
      have gt := isW_gt ok c2
      rw [if_pos c2, a1, bnd_some, if_neg (by decide)]
      exact CR_end (CR_to (C1 := []) (FC_F3 a3) (cX_S pc hq hn f 6 (o := o) (a := 10034) a2 (CD_F3 pc hd a3) (by omega) h0 h6 (by rw [nee6]; omega) ⟨by decide, fun _ => Or.inl rfl, fun z => by cases z⟩))
    rw [if_neg c2, hw.2 (by simpa using c2), bnd_some, if_pos (show w32 0 = 0 by rfl)]
    have hw := cW_takeWord_S (j := 12) (by decide) S
    by_cases c3 : isW B n (lit 12) s = true
    · obtain ⟨m1, a1, a2, a3⟩ := hw.1 c3
      have gt := isW_gt ok c3
      rw [if_pos c3, a1, bnd_some, if_neg (by decide)]
      exact CR_end (CR_to (C1 := []) (FC_F3 a3) (cX_S pc hq hn f 6 (o := o) (a := 10035) a2 (CD_F3 pc hd a3) (by omega) h0 h6 (by rw [nee6]; omega) ⟨by decide, fun _ => Or.inr rfl, fun z => by cases z⟩))
    rw [if_neg c3, hw.2 (by simpa using c3), bnd_some, if_pos (show w32 0 = 0 by rfl), cW_isWord_S (by decide) S, bnd_some, i01]
    by_cases c4 : isW B n (lit 13) s = true
    · rw [if_pos c4, if_pos c4, if_neg (by decide)]
      exact CR_end (cX_S pc hq hn f 7 (o := o) (a := 10011) S hd hl h0 h6 (by rw [nee7]; omega) ⟨by decide, (fun z => by cases z), fun _ => ⟨Or.inl rfl, by rw [isW_kd c4]; decide⟩⟩)
    rw [if_neg c4, if_neg c4, if_pos rfl]
    have fin : CR B n c m L (obd (lea B n q s) (.inl (1, tq B n s)) (fun t => .inr (nx B n s, [t]))) (cX_readPart_171 (cX_rec f) t c m) := by
      unfold cX_readPart_171 cX_readPart_189
      rw [leaf_S hq S, bnd_some]
      cases el : lea B n q s with
      | none =>
        obtain ⟨m1, a1, a2, a3⟩ := cW_failHere_S (k := 1) S (by decide) (by decide) (by decide)
        obtain ⟨m4, d1, d2, d3⟩ := CR_badd (L := L) (t := -1) pc a2 (FC_F3 (c := c) a3)
        rw [Option.getD_none, if_pos (by rfl), a1, bnd_some, cW_next_F a2, bnd_some, d1, bnd_some]
        exact CR_inl d2 d3
      | some v =>
        obtain ⟨t1, t2⟩ := lea_t el
        obtain ⟨m1, a1, a2, a3⟩ := cW_next_S S
        have gt := nx_gt ok (show tkd B n s ≠ 0 by rw [t1]; decide)
        rw [Option.getD_some, if_neg (by rw [w32_id (by omega) (by omega)]; omega), a1, bnd_some]
        have hd1 := CD_F3 pc hd a3
        rw [← List.append_nil L] at hd1
        exact CR_add pc a2 hd1 (FC_F3 a3) (by rw [List.append_nil]; have := a2.2.1.2.1; omega) (rgc (by omega) (by omega)) rfl
    by_cases cq : q = true
    · rw [if_neg (show ¬ tol t = 0 by rw [hq, if_pos cq]; decide), cW_isWord_S (by decide) S, bnd_some, i01]
      by_cases c5 : isW B n (lit 14) s = true
      · rw [if_pos c5, if_neg (show ¬ (1 : Int) = 0 by decide), if_pos (show q = true ∧ isW B n (lit 14) s = true from ⟨cq, c5⟩)]
        exact CR_end (cX_S pc hq hn f 7 (o := o) (a := 10012) S hd hl h0 h6 (by rw [nee7]; omega) ⟨by decide, (fun z => by cases z), fun _ => ⟨Or.inr ⟨rfl, cq⟩, by rw [isW_kd c5]; decide⟩⟩)
      · rw [if_neg c5, if_pos (show (0 : Int) = 0 by rfl), if_neg (show ¬ (q = true ∧ isW B n (lit 14) s = true) from fun z => c5 z.2)]
        exact fin
    · rw [if_neg (show ¬ (q = true ∧ isW B n (lit 14) s = true) from fun z => cq z.1), if_pos (show tol t = 0 by rw [hq, if_neg cq])]
      exact fin
  | f + 1, 6, o, a, m, s, L, S, hd, hl, h0, h6, hf, ha => by
    rw [nee6] at hf
    have ok := S.2.1
    unfold sp cX_rec cX_readPair0
    rw [cW_isSign_S (rgc (by decide) (by decide)) S, bnd_some, i01]
    by_cases c1 : isG B n 40 s = true
    · rw [if_pos c1, if_pos c1, if_neg (by decide)]
      refine CR_opens S FC_refl h0 h6 (fun m1 o6 a2 a3 => ?_)
      have gt := isG_gt ok c1
      have BAD : ∀ k p m', CF m' k p → FC c m m' → CR B n c m L (.inl (k, p)) (bnd (cX_rec f 3 t c (o + 1) 0 m') fun r9 m10 => bnd (cW_needSign 41 m10) fun r11 m12 => bnd (cC_add c a m12) fun r13 m14 => some (0, m14)) := by
        intro k p m' F1 F2
        refine CR_F pc (by decide) (by omega) (by omega) F1 F2 (fun m3 y1 y2 => ?_)
        obtain ⟨m4, d1, d2, d3⟩ := CR_badd (L := L) (t := a) pc y1 y2
        rw [cW_needSign_F y1, bnd_some, d1, bnd_some]
        exact CR_inl d2 d3
      refine CR_bnd (FC_F3 a3) (cX_S pc hq hn f 3 (o := o + 1) (a := 0) a2 (CD_F3 pc hd a3) (by omega) (by omega) (by omega) (by rw [nee3]; omega) (tA (by decide) (by decide))) ?_ ?_
      · intro s1 C1 m2 e1 b1 b2 b3
        obtain ⟨g1, g2, g3, g4⟩ := sp_gd f 3 a2.2.1 (show 0 ≤ o + 1 by omega) (by omega) (tA (by decide) (by decide)) s1 C1 e1
        refine CR_needSign pc (rgc (by decide) (by decide)) b1 b3 (fun m3 y0 y1 y2 => ?_) BAD
        have gt2 := isG_gt g1 y0
        refine CR_bnd (FC_trans b3 (FC_F3 y2)) (cX_S pc hq hn f 3 (o := o + 1) (a := 0) y1 (CD_F3 pc b2 y2) (by rw [List.length_append]; omega) (by omega) (by omega) (by rw [nee3]; omega) (tA (by decide) (by decide))) ?_ ?_
        · intro s2 C2 m4 e2 z1 z2 z3
          obtain ⟨k1, k2, k3, k4⟩ := sp_gd f 3 y1.2.1 (show 0 ≤ o + 1 by omega) (by omega) (tA (by decide) (by decide)) s2 C2 e2
          refine CR_needSign pc (rgc (by decide) (by decide)) z1 z3 (fun m5 w0 w1 w2 => ?_) (fun k p m5 w1 w2 => ?_)
          · have z4 := CD_F3 pc z2 w2
            have gt3 := isG_gt k1 w0
            rw [List.append_assoc] at z4
            exact CR_add pc w1 z4 (FC_trans z3 (FC_F3 w2)) (by rw [List.length_append, List.length_append]; have := w1.2.1.2.1; omega) (by rcases ha.2.1 rfl with rfl | rfl <;> exact rgc (by decide) (by decide)) (by rw [List.append_assoc])
          · obtain ⟨m4, d1, d2, d3⟩ := CR_badd (L := L) (t := a) pc w1 w2
            rw [d1, bnd_some]
            exact CR_inl d2 d3
        · intro k p m4 z1 z2
          obtain ⟨m4, d1, d2, d3⟩ := CR_badd (L := L) (t := a) pc z1 z2
          rw [cW_needSign_F z1, bnd_some, d1, bnd_some]
          exact CR_inl d2 d3
      · intro k p m2 b1 b2
        rw [cW_needSign_F b1, bnd_some]
        exact BAD k p m2 b1 b2
    · obtain ⟨m1, a1, a2, a3⟩ := cW_failHere_S (k := 1) S (by decide) (by decide) (by decide)
      rw [if_neg c1, if_neg c1, if_pos rfl, a1, bnd_some]
      exact CR_inl a2 (FC_F3 a3)
  | f + 1, 7, o, a, m, s, L, S, hd, hl, h0, h6, hf, ha => by
    rw [nee7] at hf
    have ok := S.2.1
    unfold sp cX_rec cX_readPartOf0
    refine CR_opens S FC_refl h0 h6 (fun m1 o6 a2 a3 => ?_)
    have gt := nx_gt ok (ha.2.2 rfl).2
    refine CR_bnd (FC_F3 a3) (cX_S pc hq hn f 5 (o := o + 1) (a := 0) a2 (CD_F3 pc hd a3) (by omega) (by omega) (by omega) (by rw [nee5]; omega) (tA (by decide) (by decide))) ?_ ?_
    · intro s1 C1 m2 e1 b1 b2 b3
      obtain ⟨g1, g2, g3, g4⟩ := sp_gd f 5 a2.2.1 (show 0 ≤ o + 1 by omega) (by omega) (tA (by decide) (by decide)) s1 C1 e1
      exact CR_add pc b1 b2 b3 (by rw [List.length_append]; have := g1.2.1; omega) (by rcases (ha.2.2 rfl).1 with rfl | ⟨rfl, -⟩ <;> exact rgc (by decide) (by decide)) rfl
    · intro k p m2 b1 b2
      obtain ⟨m3, d1, d2, d3⟩ := CR_badd (L := L) (t := a) pc b1 b2
      rw [d1, bnd_some]
      exact CR_inl d2 d3
  | f + 1, g + 8, o, a, m, s, L, S, hd, hl, h0, h6, hf, ha => by
    exact absurd ha.1 (by omega)
end CXS
