/-! on -/
theorem bor0_0 : ∀ j : Nat, j < 64 → ∀ l : Nat, l < 6 → bor (j : Int) (shl 0 (l : Int)) = j := by decide +kernel
theorem bor_fl {j b l : Int} (h1 : 0 ≤ j) (h2 : j < 64) (h3 : 0 ≤ l) (h4 : l < 6) (hb : b = 0 ∨ b = 1) : bor j (shl b l) = if b = 1 then sb j l else j := by
  rcases hb with rfl | rfl
  · obtain ⟨x, hx, rfl⟩ := nat2 (n := 64) h1 h2
    obtain ⟨y, hy, rfl⟩ := nat2 (n := 6) h3 h4
    rw [bor0_0 x hx y hy, if_neg (by decide)]
  · rw [bor_sb h1 h2 h3 h4, if_pos rfl]
def jb (B : Int → Int) : Nat → Int
  | 0 => 0
  | k + 1 => if B (3 + 2 * (k : Int)) = 1 then sb (jb B k) (k : Int) else jb B k
theorem jb_bl {G : hv} (w : wfS G) (B : Int → Int) : ∀ k : Nat, (k : Int) ≤ nL G → bl G (jb B k)
  | 0, _ => ⟨Int.le_refl _, by have := p2_le w.1 w.2.1; unfold jb; omega⟩
  | k + 1, h => by
    have q := jb_bl w B k (by omega)
    unfold jb
    split
    · have := sb_lt w q.1 q.2 (l := (k : Int)) (by omega) (by omega)
      exact ⟨this.1, this.2.1⟩
    · exact q
/-- the rows of an image -/
def lk (G : hv) (B : Int → Int) (l : Int) : Prop := B (2 + 2 * l) < wx G l ∧ B (3 + 2 * l) ≤ 1
def gi (G : hv) (B : Int → Int) (n : Int) : Prop := n = 3 + 2 * nL G ∧ B (n - 1) = ck B (n - 1).toNat ∧ ∀ l, 0 ≤ l → l < nL G → lk G B l
theorem byteAt_any (k : Int) (m : xm) : ∃ x, cT_byteAt k m = some (x, m) := by
  unfold cT_byteAt
  split
  · exact ⟨_, rfl⟩
  · split
    · exact ⟨_, rfl⟩
    · split
      · exact ⟨_, rfl⟩
      · unfold ial
        split
        · exact ⟨_, rfl⟩
        · next h1 h2 h3 h4 => exact absurd ⟨by omega, by rw [al2]; omega⟩ h4
theorem imgd_loop {m : xm} {G : hv} {h : Nat} (p : isH h) (w : wfG G) (hh : hl m 12 = h) (c : CH m h G) {B : Int → Int} {n : Int} (hn : n = 3 + 2 * nL G) (h11 : ld m 1 1 = n) (hB : ∀ i, 0 ≤ i → i < n → ld m 2 i = B i ∧ 0 ≤ B i ∧ B i ≤ 255) : ∀ (r f : Nat) {s : Int}, (r : Int) ≤ nL G → r < f → vs G s → (∀ l, 0 ≤ l → l < nL G - (r : Int) → wd G s l = B (2 + 2 * l)) → jm G s = jb B (nL G - (r : Int)).toNat → ((∀ l, nL G - (r : Int) ≤ l → l < nL G → lk G B l) → ∃ t, cL_imagedState_84 f s (nL G - (r : Int)) m = some (t, m) ∧ vs G t ∧ (∀ l, 0 ≤ l → l < nL G → wd G t l = B (2 + 2 * l)) ∧ jm G t = jb B (nL G).toNat) ∧ (¬ (∀ l, nL G - (r : Int) ≤ l → l < nL G → lk G B l) → cL_imagedState_84 f s (nL G - (r : Int)) m = some (-1, m)) := by
  have pr := isH_rng p
  have gL := w.1.2.1
  intro r
  induction r with
  | zero =>
    intro f s hr hf hv hw hj
    obtain ⟨f, rfl⟩ : ∃ f', f = f' + 1 := ⟨f - 1, by omega⟩
    rw [cL_imagedState_84, hh, cH_count_ok p c (by decide) (by decide), bnd_some, show G 0 0 = nL G from rfl, w32_id (x := nL G) (by omega) (by omega), w32_id (x := nL G - ((0 : Nat) : Int)) (by omega) (by omega), if_pos (by omega)]
    rw [show nL G - ((0 : Nat) : Int) = nL G by omega] at hj hw
    exact ⟨fun _ => ⟨s, rfl, hv, hw, hj⟩, fun z => absurd (fun l z1 z2 => by omega) z⟩
  | succ r ih =>
    intro f s hr hf hv hw hj
    obtain ⟨f, rfl⟩ : ∃ f', f = f' + 1 := ⟨f - 1, by omega⟩
    obtain ⟨l, hl4⟩ : ∃ l, nL G - ((r + 1 : Nat) : Int) = l := ⟨_, rfl⟩
    rw [hl4] at hw hj ⊢
    have b1 := hB (2 + 2 * l) (by omega) (by omega)
    have b2 := hB (3 + 2 * l) (by omega) (by omega)
    have wp := wx_pos w.1 l
    have sr := vs_s w.1 hv
    rw [cL_imagedState_84, hh, cH_count_ok p c (by decide) (by decide), bnd_some, show G 0 0 = nL G from rfl, w32_id (x := nL G) (by omega) (by omega), w32_id (x := l) (by omega) (by omega), if_neg (by omega), cT_byteAt_ok (by omega) (by omega) (by omega), bnd_some, cT_byteAt_ok (by omega) (by omega) (by omega), bnd_some, hh, cH_wardsOf_ok p w.1 c (by omega) (by omega), bnd_some, b1.1, b2.1, w32_id (x := wx G l) (by omega) (by omega), w32_id (x := B (2 + 2 * l)) (by omega) (by omega), w32_id (x := B (3 + 2 * l)) (by omega) (by omega)]
    by_cases g1 : wx G l ≤ B (2 + 2 * l)
    · rw [if_pos g1]
      exact ⟨fun z => absurd (z l (by omega) (by omega)).1 (by omega), fun _ => rfl⟩
    · rw [if_neg g1]
      by_cases g2 : B (3 + 2 * l) ≤ 1
      · rw [if_pos g2, hh, cH_withWard_ok p w.1 c sr.1 (by omega) (by omega) (by omega), bnd_some]
        have vu := vs_ud w.1 hv (l := l) (v := B (2 + 2 * l)) (by omega) (by omega) (by omega) (by omega)
        have uo := ud_ok w.1 (s := s) (l := l) (v := B (2 + 2 * l)) (by omega) (by omega) (by omega) (by omega)
        have el : (nL G - (r : Int)).toNat = l.toNat + 1 := by omega
        have lc : (l.toNat : Int) = l := by omega
        have fin : ∀ {t}, vs G t → (∀ k, 0 ≤ k → k < 4 → wd G t k = wd G (ud G s l (B (2 + 2 * l))) k) → jm G t = jb B (l.toNat + 1) → ((∀ l', l ≤ l' → l' < nL G → lk G B l') → ∃ t', cL_imagedState_182 (fun v3 v4 m => cL_imagedState_84 f v3 v4 m) l t m = some (t', m) ∧ vs G t' ∧ (∀ l, 0 ≤ l → l < nL G → wd G t' l = B (2 + 2 * l)) ∧ jm G t' = jb B (nL G).toNat) ∧ (¬ (∀ l', l ≤ l' → l' < nL G → lk G B l') → cL_imagedState_182 (fun v3 v4 m => cL_imagedState_84 f v3 v4 m) l t m = some (-1, m)) := by
          intro t vt wt jt
          have q := ih f (s := t) (by omega) (by omega) vt (fun k z1 z2 => by
            rw [wt k z1 (by omega), uo.1 k z1 (by omega)]
            by_cases e : k = l
            · rw [if_pos e, e]
            · rw [if_neg e]
              exact hw k z1 (by omega)) (by rw [el]; exact jt)
          unfold cL_imagedState_182
          rw [xlt_eq, show l + 1 = nL G - (r : Int) by omega]
          refine ⟨fun z => q.1 (fun k z1 z2 => z k (by omega) z2), fun z => q.2 (fun y => z (fun k z1 z2 => ?_))⟩
          by_cases e : k = l
          · rw [e]; exact ⟨by omega, g2⟩
          · exact y k (by omega) z2
        by_cases g3 : B (3 + 2 * l) = 1
        · rw [if_pos g3, hh, cH_withJam_ok w.1 c vu (by omega) (by omega), bnd_some]
          have so := sj_ok w.1 (s := ud G s l (B (2 + 2 * l))) (l := l)
          refine fin (vs_sj w.1 vu (by omega) (by omega)) so.1 ?_
          rw [so.2, uo.2, hj, jb, lc, if_pos g3]
        · rw [if_neg g3]
          refine fin vu (fun _ _ _ => rfl) ?_
          rw [uo.2, hj, jb, lc, if_neg g3]
      · rw [if_neg g2]
        exact ⟨fun z => absurd (z l (by omega) (by omega)).2 g2, fun _ => rfl⟩
theorem imgd_ck {m : xm} {f : Int → Int} {n : Int} (h0 : 1 ≤ n) (h10 : n ≤ 11) (h11 : ld m 1 1 = n) (hf : ∀ j, 0 ≤ j → j < n → ld m 2 j = f j ∧ 0 ≤ f j ∧ f j ≤ 255) : ∀ (fu k : Nat), (k : Int) ≤ n - 1 → (n - 1).toNat - k < fu → cL_imagedState_31 fu n (ck f k) (k : Int) m = cL_imagedState_57 n (ck f (n - 1).toNat) m := by
  intro fu
  induction fu with
  | zero => intro k _ hf; omega
  | succ fu ih =>
    intro k hk hfu
    rw [cL_imagedState_31, w32_id (x := n - 1) (by omega) (by omega), w32_id (x := (k : Int)) (by omega) (by omega)]
    by_cases he : n - 1 ≤ (k : Int)
    · rw [if_pos he, show (n - 1).toNat = k by omega]
    · have q := hf (k : Int) (by omega) (by omega)
      have r := ck_rng f k
      rw [if_neg he, cT_byteAt_ok (by omega) (by omega) (by omega), bnd_some, q.1]
      unfold cL_nextCheck
      rw [bnd_some, irm_nn (by omega) (by omega) (by decide) (by decide)]
      exact ih (k + 1) (by omega) (by omega)
theorem imgd_ok {m : xm} {G : hv} {h : Nat} (p : isH h) (w : wfG G) (hh : hl m 12 = h) (c : CH m h G) (h0 : 0 ≤ ld m 1 1) (h1600 : ld m 1 1 ≤ 1600) (hB : ∀ i, 0 ≤ i → i < ld m 1 1 → 0 ≤ ld m 2 i ∧ ld m 2 i ≤ 255) : (gi G (fun i => ld m 2 i) (ld m 1 1) → ∃ t, cL_imagedState m = some (t, m) ∧ vs G t ∧ (∀ l, 0 ≤ l → l < nL G → wd G t l = ld m 2 (2 + 2 * l)) ∧ jm G t = jb (fun i => ld m 2 i) (nL G).toNat) ∧ (¬ gi G (fun i => ld m 2 i) (ld m 1 1) → cL_imagedState m = some (-1, m)) := by
  have gL := w.1
  have gL1 := gL.1
  have gL2 := gL.2.1
  unfold cL_imagedState cT_length
  rw [hh, cH_count_ok p c (by decide) (by decide), bnd_some, show G 0 0 = nL G from rfl, xlt_eq, bnd_some, w32_ld, w32_id (x := 3 + 2 * nL G) (by omega) (by omega)]
  by_cases hn : ld m 1 1 = 3 + 2 * nL G
  · have hB2 : ∀ i, 0 ≤ i → i < 3 + 2 * nL G → ld m 2 i = (fun i => ld m 2 i) i ∧ 0 ≤ (fun i => ld m 2 i) i ∧ (fun i => ld m 2 i) i ≤ 255 := fun i z1 z2 => ⟨rfl, hB i z1 (by omega)⟩
    have q := imgd_ck (m := m) (f := fun i => ld m 2 i) (n := 3 + 2 * nL G) (by omega) (by omega) hn hB2 xLF 0 (by omega) (by rw [xLF_eq]; omega)
    have ckr := ck_rng (fun i => ld m 2 i) (3 + 2 * nL G - 1).toNat
    have bl := hB (3 + 2 * nL G - 1) (by omega) (by omega)
    rw [if_pos hn, show cL_imagedState_31 xLF (3 + 2 * nL G) 11 0 m = _ from q]
    unfold cL_imagedState_57 cH_firstState
    rw [cT_byteAt_ok (by omega) (by omega) (by omega), bnd_some, w32_ld, w32_id (x := ck _ _) (by omega) (by omega)]
    by_cases hc : ck (fun i => ld m 2 i) (3 + 2 * nL G - 1).toNat = ld m 2 (3 + 2 * nL G - 1)
    · rw [if_pos hc, hh, bnd_some, ch_fs c]
      have z := imgd_loop p w hh c (B := fun i => ld m 2 i) rfl hn hB2 (nL G).toNat xLF (s := fs G) (by omega) (by rw [xLF_eq]; omega) (vs_fs w) (fun l z1 z2 => by omega) (by rw [jm_fs w, show (nL G - ((nL G).toNat : Int)).toNat = 0 by omega]; rfl)
      rw [show nL G - ((nL G).toNat : Int) = 0 by omega] at z
      refine ⟨fun y => z.1 y.2.2, fun y => z.2 (fun x => y ⟨hn, by rw [hn]; exact hc.symm, x⟩)⟩
    · rw [if_neg hc]
      refine ⟨fun y => absurd ?_ hc, fun _ => rfl⟩
      have := y.2.1
      rw [hn] at this
      exact this.symm
  · rw [if_neg hn]
    exact ⟨fun y => absurd y.1 hn, fun _ => rfl⟩
theorem rimg_loop {m : xm} {G : hv} (w : wfG G) (r0 : RH m G) {B : Int → Int} (hB : ∀ i, 0 ≤ i → i < 3 + 2 * nL G → ld m 79 i = B i ∧ 0 ≤ B i ∧ B i ≤ 255) : ∀ (r f : Nat), (r : Int) ≤ nL G → r < f → ((∀ l, nL G - (r : Int) ≤ l → l < nL G → lk G B l) → r_isImage_60 f (nL G - (r : Int)) m = some (1, m)) ∧ (¬ (∀ l, nL G - (r : Int) ≤ l → l < nL G → lk G B l) → r_isImage_60 f (nL G - (r : Int)) m = some (0, m)) := by
  have gL := w.1.2.1
  intro r
  induction r with
  | zero =>
    intro f hr hf
    obtain ⟨f, rfl⟩ : ∃ f', f = f' + 1 := ⟨f - 1, by omega⟩
    rw [r_isImage_60, r_lockMany_ok r0, bnd_some, w32_id (x := nL G) (by omega) (by omega), w32_id (x := nL G - ((0 : Nat) : Int)) (by omega) (by omega), if_pos (by omega)]
    exact ⟨fun _ => rfl, fun z => absurd (fun l z1 z2 => by omega) z⟩
  | succ r ih =>
    intro f hr hf
    obtain ⟨f, rfl⟩ : ∃ f', f = f' + 1 := ⟨f - 1, by omega⟩
    obtain ⟨l, hl4⟩ : ∃ l, nL G - ((r + 1 : Nat) : Int) = l := ⟨_, rfl⟩
    rw [hl4]
    have b1 := hB (2 + 2 * l) (by omega) (by omega)
    have b2 := hB (3 + 2 * l) (by omega) (by omega)
    have wp := wx_pos w.1 l
    rw [r_isImage_60, r_lockMany_ok r0, bnd_some, w32_id (x := nL G) (by omega) (by omega), w32_id (x := l) (by omega) (by omega), if_neg (by omega), ial_in (by omega) (by rw [al79]; omega), b1.1, r_wardsOf_ok w.1 r0 (by omega) (by omega), bnd_some, w32_id (x := wx G l) (by omega) (by omega), w32_id (x := B (2 + 2 * l)) (by omega) (by omega)]
    by_cases g1 : wx G l ≤ B (2 + 2 * l)
    · rw [if_pos g1]
      exact ⟨fun z => absurd (z l (by omega) (by omega)).1 (by omega), fun _ => rfl⟩
    · rw [if_neg g1, ial_in (by omega) (by rw [al79]; omega), b2.1, w32_id (x := B (3 + 2 * l)) (by omega) (by omega)]
      by_cases g2 : B (3 + 2 * l) ≤ 1
      · rw [if_pos g2, show l + 1 = nL G - (r : Int) by omega]
        have q := ih f (by omega) (by omega)
        refine ⟨fun z => q.1 (fun k z1 z2 => z k (by omega) z2), fun z => q.2 (fun y => z (fun k z1 z2 => ?_))⟩
        by_cases e : k = l
        · rw [e]; exact ⟨by omega, g2⟩
        · exact y k (by omega) z2
      · rw [if_neg g2]
        exact ⟨fun z => absurd (z l (by omega) (by omega)).2 g2, fun _ => rfl⟩
theorem rimg_ok {m : xm} {G : hv} (w : wfG G) (r0 : RH m G) {B : Int → Int} {n : Int} (h0 : 0 ≤ n) (h1600 : n ≤ 1600) (hB : ∀ i, 0 ≤ i → i < n → ld m 79 i = B i ∧ 0 ≤ B i ∧ B i ≤ 255) : r_isImage n m = some (1, m) ∧ gi G B n ∧ 256 * B 0 + B 1 ≤ 9999 ∨ r_isImage n m = some (0, m) ∧ ¬ (gi G B n ∧ 256 * B 0 + B 1 ≤ 9999) := by
  have gL := w.1
  have gL1 := gL.1
  have gL2 := gL.2.1
  unfold r_isImage
  rw [r_lockMany_ok r0, bnd_some, w32_id (x := 3 + 2 * nL G) (by omega) (by omega), w32_id (x := n) (by omega) (by omega)]
  by_cases hn : n = 3 + 2 * nL G
  · have bl := hB (n - 1) (by omega) (by omega)
    have c0 := hB 0 (by omega) (by omega)
    have c1 := hB 1 (by omega) (by omega)
    have ckr := ck_rng B (n - 1).toNat
    rw [if_pos hn, ial_in (by omega) (by rw [al79]; omega), bl.1, r_checked_ok (f := B) (by omega) (by omega) (by rw [al79]; decide) (fun j z1 z2 => hB j z1 (by omega)), bnd_some, w32_id (x := B (n - 1)) (by omega) (by omega), w32_id (x := ck B (n - 1).toNat) (by omega) (by omega)]
    by_cases hc : B (n - 1) = ck B (n - 1).toNat
    · rw [if_pos hc, ial_in (by decide) (by rw [al79]; decide), ial_in (by decide) (by rw [al79]; decide), c0.1, c1.1, w32_id (x := 256 * B 0 + B 1) (by omega) (by omega)]
      by_cases h9 : 256 * B 0 + B 1 ≤ 9999
      · rw [if_pos h9]
        have q := rimg_loop w r0 (B := B) (fun i z1 z2 => hB i z1 (by omega)) (nL G).toNat xLF (by omega) (by rw [xLF_eq]; omega)
        rw [show nL G - ((nL G).toNat : Int) = 0 by omega] at q
        by_cases g : ∀ l, 0 ≤ l → l < nL G → lk G B l
        · exact Or.inl ⟨q.1 g, ⟨hn, hc, g⟩, h9⟩
        · exact Or.inr ⟨q.2 g, fun z => g z.1.2.2⟩
      · rw [if_neg h9]
        exact Or.inr ⟨rfl, fun z => h9 z.2⟩
    · rw [if_neg hc]
      exact Or.inr ⟨rfl, fun z => hc z.1.2.1⟩
  · rw [if_neg hn]
    exact Or.inr ⟨rfl, fun z => hn z.1.1⟩
theorem ron_loop {m0 : xm} {G : hv} (w : wfG G) (r0 : RH m0 G) {B : Int → Int} (hB : ∀ i, 0 ≤ i → i < 3 + 2 * nL G → ld m0 79 i = B i ∧ 0 ≤ B i ∧ B i ≤ 255) (hk : ∀ l, 0 ≤ l → l < nL G → lk G B l) : ∀ (r f : Nat) {m : xm}, (r : Int) ≤ nL G → r < f → (∀ a j, ¬ (a = 110 ∧ 1 ≤ j ∧ j ≤ 5) → m a j = m0 a j) → (∀ l, 0 ≤ l → l < nL G - (r : Int) → ld m 110 (1 + l) = B (2 + 2 * l)) → ld m 110 5 = jb B (nL G - (r : Int)).toNat → ∃ m', r_on_62 f (nL G - (r : Int)) m = r_on_115 m' ∧ (∀ a j, ¬ (a = 110 ∧ 1 ≤ j ∧ j ≤ 5) → m' a j = m0 a j) ∧ (∀ l, 0 ≤ l → l < nL G → ld m' 110 (1 + l) = B (2 + 2 * l)) ∧ ld m' 110 5 = jb B (nL G).toNat := by
  have gL := w.1.2.1
  have a110 : aln 110 = 127 := rfl
  intro r
  induction r with
  | zero =>
    intro f m hr hf fr hw hj
    obtain ⟨f, rfl⟩ : ∃ f', f = f' + 1 := ⟨f - 1, by omega⟩
    have rm : RH m G := RH_cg r0 (fun a j z1 z2 _ => ldq (fr a j (by omega)))
    rw [r_on_62, r_lockMany_ok rm, bnd_some, w32_id (x := nL G) (by omega) (by omega), w32_id (x := nL G - ((0 : Nat) : Int)) (by omega) (by omega), if_pos (by omega)]
    rw [show nL G - ((0 : Nat) : Int) = nL G by omega] at hj hw
    exact ⟨m, rfl, fr, hw, hj⟩
  | succ r ih =>
    intro f m hr hf fr hw hj
    obtain ⟨f, rfl⟩ : ∃ f', f = f' + 1 := ⟨f - 1, by omega⟩
    obtain ⟨l, hl4⟩ : ∃ l, nL G - ((r + 1 : Nat) : Int) = l := ⟨_, rfl⟩
    rw [hl4] at hw hj ⊢
    have b1 := hB (2 + 2 * l) (by omega) (by omega)
    have b2 := hB (3 + 2 * l) (by omega) (by omega)
    have kl := hk l (by omega) (by omega)
    have kl2 := kl.2
    have jr := jb_bl w.1 B l.toNat (by omega)
    have p2 := p2_le w.1.1 w.1.2.1
    have jr1 := jr.1
    have jr2 := jr.2
    have lc : (l.toNat : Int) = l := by omega
    have el : (nL G - (r : Int)).toNat = l.toNat + 1 := by omega
    have rm : RH m G := RH_cg r0 (fun a j z1 z2 _ => ldq (fr a j (by omega)))
    have jr' := jb_bl w.1 B (l.toNat + 1) (by omega)
    have jr3 := jr'.1
    have jr4 := jr'.2
    have ej : bor (jb B l.toNat) (shl (B (3 + 2 * l)) l) = jb B (l.toNat + 1) := by
      rw [bor_fl jr1 (by omega) (by omega) (by omega) (by omega), jb, lc]
    obtain ⟨m2, g1, g2⟩ := ih f (m := st (st m 110 (1 + l) (B (2 + 2 * l))) 110 5 (jb B (l.toNat + 1))) (by omega) (by omega) (fun a j z => by rw [st_at (by omega), st_at (by omega), fr a j z]) (fun k z1 z2 => by
      rw [ld_st_ne (by omega)]
      by_cases e : k = l
      · rw [e, ld_st_eq, w32_id (by omega) (by omega)]
      · rw [ld_st_ne (by omega)]
        exact hw k z1 (by omega)) (by rw [ld_st_eq, w32_id (by omega) (by omega), el])
    rw [r_on_62, r_lockMany_ok rm, bnd_some, w32_id (x := nL G) (by omega) (by omega), w32_id (x := l) (by omega) (by omega), if_neg (by omega), ial_in (by omega) (by rw [al79]; omega), ldq (fr 79 (2 + 2 * l) (by omega)), b1.1, ias_in (by omega) (by rw [a110]; omega), ial_in (by decide) (by rw [a110]; decide), ld_st_ne (by omega), hj, ial_in (by omega) (by rw [al79]; omega), ld_st_nc (by decide), ldq (fr 79 (3 + 2 * l) (by omega)), b2.1, ej, ias_in (by decide) (by rw [a110]; decide), show l + 1 = nL G - (r : Int) by omega]
    exact ⟨m2, g1, g2⟩
theorem ok_on : okI cL_on r_on := by
  intro m hi
  obtain ⟨G, H⟩ := hi
  have H0 : IG m G := H
  obtain ⟨⟨w, hD, -, c, M, r, -⟩, S0, P0, T, -, R, HH, JJ, LL, II, E⟩ := H0
  obtain ⟨h, hh⟩ : ∃ h, hl m 12 = h := ⟨_, rfl⟩
  have p := hl_or m 12
  rw [hh] at p c M
  have pr := isH_rng p
  have gL := w.1
  have gL1 := gL.1
  have gL2 := gL.2.1
  have a110 : aln 110 = 127 := rfl
  obtain ⟨t1, t2, t3, t4⟩ := T
  have im := imgd_ok p w hh c t2 t3 (fun i z1 z2 => (t4 i z1 z2).2)
  obtain ⟨x0, hx0⟩ := byteAt_any 0 m
  obtain ⟨x1, hx1⟩ := byteAt_any 1 m
  -- refused
  have ref : cL_on m = cL_on_47 (st m 1 1 0) → ¬ (gi G (fun i => ld m 2 i) (ld m 1 1) ∧ 256 * ld m 2 0 + ld m 2 1 ≤ 9999) → ∃ r m1 r' m2, cL_on m = some (r, m1) ∧ r_on m1 = some (r', m2) ∧ w32 r = w32 r' ∧ Inv m2 := by
    intro eC ng
    obtain ⟨mA, hA⟩ : ∃ mA, mA = st (st m 1 1 0) 47 5 (ld m 47 5 + 1) := ⟨_, rfl⟩
    have e1 : cL_on m = some (0, mA) := by
      rw [eC]
      unfold cL_on_47
      rw [cL_refuse_ok (by decide) (by decide), bnd_some, ld_st_nc (by decide), hA]
    have frR : ∀ a, 78 ≤ a → mA a = m a := fun a z => by
      funext k
      rw [hA, st_at (by omega), st_at (by omega)]
    have r1 : RH (st mA 78 1 0) G := RH_cg r (fun a k g1 _ _ => by rw [ld_st_nc (by omega), ld_cg (frR a (by omega))])
    have q := rimg_ok w r1 (B := fun i => ld m 2 i) (n := ld m 1 1) t2 t3 (fun i z1 z2 => by rw [ld_st_nc (by decide), ld_cg (frR 79 (by decide))]; exact ⟨(t4 i z1 z2).1.symm, (t4 i z1 z2).2⟩)
    have qr : r_isImage (ld m 1 1) (st mA 78 1 0) = some (0, st mA 78 1 0) := by
      rcases q with q | q
      · exact absurd q.2 ng
      · exact q.1
    have e2 : r_on mA = some (0, st (st mA 78 1 0) 80 5 (ld m 80 5 + 1)) := by
      unfold r_on
      rw [stf_eq, ld_cg (frR 78 (by decide)), ← t1, qr, bnd_some, if_pos (by decide), ial_in (by decide) (by rw [al80]; decide), ias_in (by decide) (by rw [al80]; decide), ld_st_nc (by decide), ld_cg (frR 80 (by decide))]
    refine ⟨0, mA, 0, _, e1, e2, rfl, ⟨G, IG_TR H (fun a k z => ?_) (TP0 ?_ ?_) (RF_inc (k := 5) R (fun i => ?_) (fun i => ?_) (by decide) (by decide))⟩⟩
    · unfold fTP fRF at z
      rw [st_at (by omega), st_at (by omega), hA, st_at (by omega), st_at (by omega)]
    · rw [ld_st_nc (by decide), ld_st_nc (by decide), hA, ld_st_nc (by decide), ld_st_eq]
      rfl
    · rw [ld_st_nc (by decide), ld_st_eq]
      rfl
    · rw [ld_st_nc (by decide), ld_st_nc (by decide), hA, ld_inc, ld_st_nc (by decide)]
    · rw [ld_inc, ld_st_nc (by decide), ld_cg (frR 80 (by decide))]
  by_cases hg : gi G (fun i => ld m 2 i) (ld m 1 1)
  · obtain ⟨t, i1, i2, i3, i4⟩ := im.1 hg
    have hn := hg.1
    have ts := vs_s w.1 i2
    have c0 := (t4 0 (by omega) (by omega))
    have c1 := (t4 1 (by omega) (by omega))
    have c02 := c0.2
    have c12 := c1.2
    by_cases h9 : 256 * ld m 2 0 + ld m 2 1 ≤ 9999
    · obtain ⟨mA, hA⟩ : ∃ mA, mA = st (st (st (st (st m 1 1 0) 22 0 t) 22 1 (256 * ld m 2 0 + ld m 2 1)) 22 2 0) 21 3 0 := ⟨_, rfl⟩
      have eC : cL_on m = some (1, mA) := by
        unfold cL_on
        rw [i1, bnd_some, cT_byteAt_ok (by decide) (by omega) (by omega), bnd_some, cT_byteAt_ok (by decide) (by omega) (by omega), bnd_some, xlt_eq, cT_cut_ok (by decide) t2, bnd_some, w32_id (x := t) (by omega) (by omega), if_neg (by omega), w32_id (x := 256 * ld m 2 0 + ld m 2 1) (by omega) (by omega), if_pos h9]
        unfold cY_start
        rw [setCell_in (by decide) (by rw [al22]; decide), bnd_some, setCell_in (by decide) (by rw [al22]; decide), bnd_some, setCell_in (by decide) (by rw [al22]; decide), bnd_some, stf_eq, bnd_some, hA]
      have frR : ∀ a, 78 ≤ a → mA a = m a := fun a z => by
        funext k
        rw [hA, st_at (by omega), st_at (by omega), st_at (by omega), st_at (by omega), st_at (by omega)]
      have r1 : RH (st mA 78 1 0) G := RH_cg r (fun a k g1 _ _ => by rw [ld_st_nc (by omega), ld_cg (frR a (by omega))])
      have hB : ∀ i, 0 ≤ i → i < ld m 1 1 → ld (st mA 78 1 0) 79 i = ld m 2 i ∧ 0 ≤ ld m 2 i ∧ ld m 2 i ≤ 255 := fun i z1 z2 => by rw [ld_st_nc (by decide), ld_cg (frR 79 (by decide))]; exact ⟨(t4 i z1 z2).1.symm, (t4 i z1 z2).2⟩
      have qr : r_isImage (ld m 1 1) (st mA 78 1 0) = some (1, st mA 78 1 0) := by
        rcases rimg_ok w r1 (B := fun i => ld m 2 i) (n := ld m 1 1) t2 t3 hB with q | q
        · exact q.1
        · exact absurd ⟨hg, h9⟩ q.2
      obtain ⟨mB, hmB⟩ : ∃ mB, mB = st (st (st mA 78 1 0) 110 0 (256 * ld m 2 0 + ld m 2 1)) 110 5 0 := ⟨_, rfl⟩
      have rB : RH mB G := by
        rw [hmB]
        exact RH_cg r1 (fun a k z1 z2 _ => by rw [ld_st_nc (by omega), ld_st_nc (by omega)])
      obtain ⟨mC, d1, d2, d3, d4⟩ := ron_loop w rB (B := fun i => ld m 2 i) (fun i z1 z2 => by
        rw [hmB, ld_st_nc (by decide), ld_st_nc (by decide)]
        exact hB i z1 (by omega)) hg.2.2 (nL G).toNat xLF (m := mB) (by omega) (by rw [xLF_eq]; omega) (fun _ _ _ => rfl) (fun l z1 z2 => by omega) (by rw [hmB, ld_st_eq, show (nL G - ((nL G).toNat : Int)).toNat = 0 by omega]; rfl)
      rw [show nL G - ((nL G).toNat : Int) = 0 by omega] at d1
      obtain ⟨mF, hF⟩ : ∃ mF, mF = st (st mC 110 6 0) 78 61 0 := ⟨_, rfl⟩
      have eR : r_on mA = some (1, mF) := by
        unfold r_on
        rw [stf_eq, ld_cg (frR 78 (by decide)), ← t1, qr, bnd_some, if_neg (by decide), ial_in (by decide) (by rw [al79]; decide), ial_in (by decide) (by rw [al79]; decide), (hB 0 (by omega) (by omega)).1, (hB 1 (by omega) (by omega)).1, ias_in (by decide) (by rw [a110]; decide), ias_in (by decide) (by rw [a110]; decide), ← hmB, d1]
        unfold r_on_115
        rw [ias_in (by decide) (by rw [a110]; decide), stf_eq, hF]
      have fr : ∀ a j, a ≠ 110 → ¬ (a = 78 ∧ (j = 1 ∨ j = 61)) → mF a j = mA a j := fun a j z1 z2 => by
        rw [hF, st_at (by omega), st_at (by omega), d2 a j (by omega), hmB, st_at (by omega), st_at (by omega), st_at (by omega)]
      have frm : ∀ a j, a ≠ 110 → a ≠ 22 → ¬ (a = 78 ∧ (j = 1 ∨ j = 61)) → ¬ (a = 1 ∧ j = 1) → ¬ (a = 21 ∧ j = 3) → mF a j = m a j := fun a j z1 z2 z3 z4 z5 => by
        rw [fr a j z1 z3, hA, st_at (by omega), st_at (by omega), st_at (by omega), st_at (by omega), st_at (by omega)]
      have l22 : ld mF 22 0 = t ∧ ld mF 22 1 = 256 * ld m 2 0 + ld m 2 1 ∧ ld mF 22 2 = 0 := by
        refine ⟨?_, ?_, ?_⟩
        · rw [ldq (fr 22 0 (by decide) (by decide)), hA, ld_st_nc (by decide), ld_st_ne (by decide), ld_st_ne (by decide), ld_st_eq, w32_id (by omega) (by omega)]
        · rw [ldq (fr 22 1 (by decide) (by decide)), hA, ld_st_nc (by decide), ld_st_ne (by decide), ld_st_eq, w32_id (by omega) (by omega)]
        · rw [ldq (fr 22 2 (by decide) (by decide)), hA, ld_st_nc (by decide), ld_st_eq]
          rfl
      have l110 : ∀ k, k ≠ 6 → ld mF 110 k = ld mC 110 k := fun k z => by rw [hF, ld_st_nc (by decide), ld_st_ne z]
      have l6 : ld mF 110 6 = 0 := by
        rw [hF, ld_st_nc (by decide), ld_st_eq]
        rfl
      refine ⟨1, mA, 1, mF, eC, eR, rfl, ⟨G, IG_act hh H (fun a k z => frm a k ?_ ?_ ?_ ?_ ?_) (CM_cg M (fun k => frm _ k (by omega) (by omega) (by omega) (by omega) (by omega))) ?_ ?_ (TP0 ?_ ?_) (RF_cg R (fun a k z => ?_)) (SE_cg E (fun a k z => ?_))⟩⟩
      · intro q; exact z (by unfold act; simp [q])
      · intro q; exact z (by unfold act; simp [q])
      · intro q; refine z ?_; unfold act fTP fPS; omega
      · intro q; refine z ?_; unfold act fTP; omega
      · intro q; refine z ?_; unfold act fPS; omega
      · unfold SN
        rw [l22.1, l22.2.1, l22.2.2]
        refine ⟨i2, fun l z1 z2 => ?_, ?_, ⟨?_, by omega, h9⟩, ⟨?_, by decide, by decide⟩, fun i z1 z2 => by omega⟩
        · rw [show (0 : Int) + 1 + l = 1 + l by omega, l110 _ (by omega), d3 l z1 z2, i3 l z1 z2]
        · rw [show (0 : Int) + 5 = 5 by omega, l110 _ (by omega), d4, i4]
        · rw [l110 0 (by decide), ldq (d2 110 0 (by omega)), hmB, ld_st_ne (by decide), ld_st_eq, w32_id (by omega) (by omega)]
        · exact l6.symm
      · obtain ⟨p1, p2, p3, p4, p5, p6⟩ := P0
        have e213 : ld mF 21 3 = 0 := by
          rw [ldq (fr 21 3 (by decide) (by decide)), hA, ld_st_eq]
          rfl
        have e61 : ld mF 78 61 = 0 := by
          rw [hF, ld_st_eq]
          rfl
        unfold PS
        rw [e213, e61, ldq (frm 21 2 (by decide) (by decide) (by decide) (by decide) (by decide)), ldq (frm 78 62 (by decide) (by decide) (by decide) (by decide) (by decide))]
        exact ⟨rfl, Int.le_refl _, by decide, p4, p5, fun j z1 z2 => by omega⟩
      · rw [ldq (fr 1 1 (by decide) (by decide)), hA, ld_st_nc (by decide), ld_st_nc (by decide), ld_st_nc (by decide), ld_st_nc (by decide), ld_st_eq]
        rfl
      · rw [hF, ld_st_ne (by decide), ld_st_nc (by decide), ldq (d2 78 1 (by decide)), hmB, ld_st_nc (by decide), ld_st_nc (by decide), ld_st_eq]
        rfl
      · unfold fRF at z
        exact frm a k (by omega) (by omega) (by omega) (by omega) (by omega)
      · unfold fSE at z
        exact frm a k (by omega) (by omega) (by omega) (by omega) (by omega)
    · refine ref ?_ (fun z => h9 z.2)
      unfold cL_on
      rw [i1, bnd_some, cT_byteAt_ok (by decide) (by omega) (by omega), bnd_some, cT_byteAt_ok (by decide) (by omega) (by omega), bnd_some, xlt_eq, cT_cut_ok (by decide) t2, bnd_some, w32_id (x := t) (by omega) (by omega), if_neg (by omega), w32_id (x := 256 * ld m 2 0 + ld m 2 1) (by omega) (by omega), if_neg h9]
  · refine ref ?_ (fun z => hg z.1)
    unfold cL_on
    rw [im.2 hg, bnd_some, hx0, bnd_some, hx1, bnd_some, xlt_eq, cT_cut_ok (by decide) t2, bnd_some, if_pos (by decide)]
