/-! the memory of the doors -/
theorem byt (x v : BitVec 32) (hv : ∀ i, 7 ≤ i → v.getLsbD i = false) (a b : Nat) (ha : a = 0 ∨ a = 8 ∨ a = 16 ∨ a = 24) (hb : b = 0 ∨ b = 8 ∨ b = 16 ∨ b = 24) : ((x ||| v <<< a) >>> b) &&& 255#32 = ((x >>> b) &&& 255#32) ||| (if a = b then v else 0#32) := by
  apply BitVec.eq_of_getLsbD_eq
  intro i hi
  have h255 : ∀ i, i < 32 → (255#32).getLsbD i = decide (i < 8) := by decide
  simp only [BitVec.getLsbD_and, BitVec.getLsbD_or, BitVec.getLsbD_ushiftRight, BitVec.getLsbD_shiftLeft, h255 i hi]
  by_cases h8 : i < 8
  · rw [decide_eq_true h8]
    by_cases hab : a = b
    · subst hab
      rw [if_pos rfl, decide_eq_true (show a + i < 32 by omega), decide_eq_false (show ¬ a + i < a by omega), show a + i - a = i by omega]
      simp
    · rw [if_neg hab]
      by_cases hlt : b + i < a
      · rw [decide_eq_true hlt]
        simp
      · rw [hv (b + i - a) (by omega)]
        simp
  · rw [decide_eq_false h8]
    by_cases hab : a = b
    · rw [if_pos hab, hv i (by omega)]
      simp
    · rw [if_neg hab]
      simp
theorem i32_bv (x : Int) : (i32 x).toBitVec = BitVec.ofInt 32 x := rfl
theorem bor_i (x y : Int) : i32 (bor x y) = i32 x ||| i32 y := Int32.ofInt_toInt _
theorem shl_i (x y : Int) : i32 (shl x y) = i32 x <<< (i32 y &&& 31) := Int32.ofInt_toInt _
theorem usr_i (x y : Int) : i32 (usr x y) = ((i32 x).toUInt32 >>> ((i32 y).toUInt32 &&& Int32.toUInt32 31)).toInt32 := Int32.ofInt_toInt _
theorem ban_i (x y : Int) : i32 (ban x y) = i32 x &&& i32 y := Int32.ofInt_toInt _
/-- a byte of a cell -/
theorem byte_bv {x : Int} {b : Nat} (hb : b = 0 ∨ b = 8 ∨ b = 16 ∨ b = 24) : (i32 (ban (usr x (b : Int)) 255)).toBitVec = ((i32 x).toBitVec >>> b) &&& 255#32 := by
  rw [ban_i, Int32.toBitVec_and, usr_i]
  rcases hb with rfl | rfl | rfl | rfl <;> rfl
theorem shl_bv {v : Int} {a : Nat} (ha : a = 0 ∨ a = 8 ∨ a = 16 ∨ a = 24) : (i32 (shl v (a : Int))).toBitVec = (i32 v).toBitVec <<< a := by
  rw [shl_i]
  rcases ha with rfl | rfl | rfl | rfl <;> rfl
theorem ban_ext {x y : Int} (h : (i32 (ban x 255)).toBitVec = (i32 (ban y 255)).toBitVec) : ban x 255 = ban y 255 := by
  have h1 : i32 (ban x 255) = i32 (ban y 255) := Int32.toBitVec_inj.mp h
  rw [ban_i, ban_i] at h1
  unfold ban
  rw [h1]
theorem byte_set {r v : Int} {a b : Nat} (ha : a = 0 ∨ a = 8 ∨ a = 16 ∨ a = 24) (hb : b = 0 ∨ b = 8 ∨ b = 16 ∨ b = 24) (h1 : 0 ≤ v) (h2 : v < 128) (h0 : ban (usr r (a : Int)) 255 = 0) : ban (usr (bor r (shl v (a : Int))) (b : Int)) 255 = if b = a then v else ban (usr r (b : Int)) 255 := by
  obtain ⟨n, hn, rfl⟩ := nat2 (n := 128) h1 h2
  have hv : ∀ i, 7 ≤ i → ((i32 (n : Int)).toBitVec).getLsbD i = false := by
    intro i hi
    have e : (i32 (n : Int)).toBitVec = BitVec.ofNat 32 n := by
      rw [i32_bv]
      exact BitVec.ofInt_natCast 32 n
    rw [e, BitVec.getLsbD_ofNat]
    have : n.testBit i = false := Nat.testBit_lt_two_pow (Nat.lt_of_lt_of_le (show n < 2 ^ 7 from hn) (Nat.pow_le_pow_right (show 2 > 0 by decide) hi))
    rw [this, Bool.and_false]
  have key : (i32 (ban (usr (bor r (shl (n : Int) (a : Int))) (b : Int)) 255)).toBitVec = (i32 (ban (usr r (b : Int)) 255)).toBitVec ||| (if a = b then (i32 (n : Int)).toBitVec else 0#32) := by
    rw [byte_bv hb, byte_bv hb, bor_i, Int32.toBitVec_or, shl_bv ha]
    exact byt _ _ hv a b ha hb
  by_cases hab : b = a
  · subst hab
    rw [if_pos rfl]
    rw [if_pos rfl, h0] at key
    have e2 : (i32 (ban (usr (bor r (shl (n : Int) (b : Int))) (b : Int)) 255)) = i32 (n : Int) := by
      apply Int32.toBitVec_inj.mp
      rw [key]
      show (0#32) ||| _ = _
      rw [BitVec.zero_or]
    have e3 : w32 (ban (usr (bor r (shl (n : Int) (b : Int))) (b : Int)) 255) = w32 (n : Int) := congrArg Int32.toInt e2
    rw [w32_id (x := (n : Int)) (by omega) (by omega)] at e3
    have e4 : w32 (ban (usr (bor r (shl (n : Int) (b : Int))) (b : Int)) 255) = ban (usr (bor r (shl (n : Int) (b : Int))) (b : Int)) 255 := w32_of _
    rw [← e4, e3]
  · rw [if_neg hab]
    rw [if_neg (fun z => hab z.symm), BitVec.or_zero] at key
    exact ban_ext key
theorem ban_mask {x : Int} (h1 : 0 ≤ x) (h2 : x ≤ 2147483647) : ban x 3 = x % 4 := by
  obtain ⟨n, rfl⟩ := Int.eq_ofNat_of_zero_le h1
  unfold ban
  have e1 : i32 (n : Int) &&& i32 3 = i32 ((n % 4 : Nat) : Int) := by
    apply Int32.toBitVec_inj.mp
    rw [Int32.toBitVec_and, i32_bv, i32_bv ((n % 4 : Nat) : Int), BitVec.ofInt_natCast, BitVec.ofInt_natCast]
    show BitVec.ofNat 32 n &&& BitVec.ofNat 32 3 = _
    rw [← BitVec.ofNat_and, show (3 : Nat) = 2 ^ 2 - 1 by rfl, Nat.and_two_pow_sub_one_eq_mod]
  rw [e1, i32_toInt (by omega) (by omega)]
  omega
def mby (m : xm) (h : Nat) (s : Int) : Int := ban (usr (ld m (h + 14) (s / 4)) (8 * (s % 4))) 255
def CM (m : xm) (h : Nat) (G : hv) : Prop := ∀ s, vs G s → mby m h s = 0 ∨ mby m h s = 64 + od G s
/-- only what the doors are remembered by was changed -/
def fo (h : Nat) (m m' : xm) : Prop := ∀ a k, ¬ (a = h + 1 ∧ k = 3) → a ≠ h + 3 → a ≠ h + 14 → m' a k = m a k
theorem fo_refl {h : Nat} {m : xm} : fo h m m := fun _ _ _ _ _ => rfl
theorem fo_trans {h : Nat} {m1 m2 m3 : xm} (h1 : fo h m1 m2) (h2 : fo h m2 m3) : fo h m1 m3 := fun a k g1 g2 g3 => by rw [h2 a k g1 g2 g3, h1 a k g1 g2 g3]
theorem fo_fr {h : Nat} {m m' : xm} (f : fr (h + 1) m m') : fo h m m' := fun a k g1 g2 _ => f a k g1 g2
theorem fo_ld {h : Nat} {m m' : xm} (f : fo h m m') {a : Nat} {k : Int} (g1 : ¬ (a = h + 1 ∧ k = 3)) (g2 : a ≠ h + 3) (g3 : a ≠ h + 14) : ld m' a k = ld m a k := by
  unfold ld
  rw [f a k g1 g2 g3]
/-- cells outside the halls -/
theorem fo_out {h : Nat} {m m' : xm} (p : isH h) (f : fo h m m') {a : Nat} (ha : a < 48 ∨ 78 ≤ a) : m' a = m a := by
  have := isH_rng p
  funext k
  exact f a k (by omega) (by omega) (by omega)
theorem fo_CH {h : Nat} {m m' : xm} {G : hv} (f : fo h m m') (H : CH m h G) : CH m' h G := CH_cg H (fun a k z => fo_ld f (by rcases z with rfl | ⟨z1, z2⟩ | ⟨rfl, z⟩ <;> omega) (by rcases z with rfl | ⟨z1, z2⟩ | ⟨rfl, z⟩ <;> omega) (by rcases z with rfl | ⟨z1, z2⟩ | ⟨rfl, z⟩ <;> omega))
theorem bor_known0 : ∀ k : Nat, k < 6 → ∀ x : Nat, x < 2 ^ k → ∀ b : Nat, b < 2 → bor (64 + (x : Int)) (shl (b : Int) (k : Int)) = 64 + ((x : Int) + (b : Int) * 2 ^ k) := by decide +kernel
theorem bor_known {k : Nat} {x b : Int} (hk : k < 6) (h1 : 0 ≤ x) (h2 : x < 2 ^ k) (hb : b = 0 ∨ b = 1) : bor (64 + x) (shl b (k : Int)) = 64 + (x + b * 2 ^ k) := by
  obtain ⟨n, rfl⟩ := Int.eq_ofNat_of_zero_le h1
  have h3 : n < 2 ^ k := by exact_mod_cast h2
  rcases hb with rfl | rfl
  · exact bor_known0 k hk n h3 0 (by decide)
  · exact bor_known0 k hk n h3 1 (by decide)
theorem ban_65_0 : ∀ x : Nat, x < 64 → ban (64 + (x : Int)) (-65) = x := by decide +kernel
theorem ban_65 {x : Int} (h1 : 0 ≤ x) (h2 : x < 64) : ban (64 + x) (-65) = x := by
  obtain ⟨n, hn, rfl⟩ := nat2 (n := 64) h1 h2
  exact ban_65_0 n hn
section OD
variable {h : Nat} {G : hv}
theorem openDoors_loop (p : isH h) (w : wfG G) (hD : wfD G) {s sh : Int} (hv : vs G s) : ∀ (f k : Nat) {m : xm}, CH m h G → (k : Int) ≤ nD G → (nD G).toNat - k < f → ∃ m', cH_openDoors_34 h f s sh (64 + odl G s k) (k : Int) m = cH_openDoors_88 h s sh (64 + od G s) m' ∧ fr (h + 1) m m' := by
  have a := alnH p
  have gD := w.2.2.1
  intro f
  induction f with
  | zero => intro k m _ _ hf; omega
  | succ f ih =>
    intro k m H hk hf
    rw [cH_openDoors_34, cH_count_ok p H (by decide) (by decide), bnd_some, w32_id (x := (k : Int)) (by omega) (by omega), w32_id (x := G 0 2) (by unfold nD at *; omega) (by unfold nD at *; omega)]
    by_cases he : nD G ≤ (k : Int)
    · rw [if_pos (by exact he)]
      have : k = (nD G).toNat := by omega
      subst this
      exact ⟨m, rfl, fr_refl⟩
    · rw [if_neg (by exact he), cell_in (by omega) (by omega), bnd_some, cell_in (by omega) (by omega), bnd_some, (ch_dr H (d := (k : Int)) (by omega) (by omega)).1, (ch_dr H (d := (k : Int)) (by omega) (by omega)).2]
      obtain ⟨d1, d2, d3, d4⟩ := hD (k : Int) (by omega) (by omega)
      obtain ⟨v, m1, e1, e2, e3, e4⟩ := cC_valueOf_ok p (Or.inl rfl) w (q := false) (s := s) (lk := -1) hv (fun z => by cases z) (by omega) (by omega) H (fm := G 6 k) (to := G 7 k) (b := true) (C := G 8) d1 d2 d3 (fun j j1 j2 => ch_cd H (by omega) (by omega) j1 j2) d4
      have hdv : dv G s k = v := by
        unfold dv seg
        rw [e2]
        rfl
      have h01 := (dv_01 w hD (s := s) (d := k) (by omega) (by omega)).2
      have hr := odl_rng w hD s k (by omega)
      rw [e1, bnd_some, xlt_eq, ← hdv, bor_known (by omega) hr.1 hr.2 h01]
      obtain ⟨m2, g1, g2⟩ := ih (k + 1) (m := m1) (fr_CH p (Or.inl rfl) e4 H) (by omega) (by omega)
      refine ⟨m2, ?_, fr_trans e4 g2⟩
      rw [← g1]
      rfl
theorem cH_openDoors_ok (p : isH h) (w : wfG G) (hD : wfD G) {s : Int} (hv : vs G s) {m : xm} (H : CH m h G) (M : CM m h G) : ∃ m', cH_openDoors h s m = some (od G s, m') ∧ fo h m m' ∧ CM m' h G := by
  have a := alnH p
  have gs := vs_s w.1 hv
  have gD := w.2.2.1
  have ho := od_rng w hD s
  have gq : 0 ≤ s / 4 ∧ s / 4 < 2500 := by omega
  unfold cH_openDoors
  rw [xlt_eq, ban_mask gs.1 (by omega), idv_nn gs.1 (by omega) (by decide) (by decide), cell_in gq.1 (by omega), bnd_some, xlt_eq]
  have hm : ban (usr (ld m (h + 14) (s / 4)) (8 * (s % 4))) 255 = mby m h s := rfl
  rw [hm]
  rcases M s hv with h0 | h0
  · rw [h0, if_pos (by decide)]
    obtain ⟨m1, e1, e2⟩ := openDoors_loop p w hD (sh := 8 * (s % 4)) hv xLF 0 H (by omega) (by rw [xLF_eq]; omega)
    have e1' : cH_openDoors_34 h xLF s (8 * (s % 4)) 64 0 m = cH_openDoors_88 h s (8 * (s % 4)) (64 + od G s) m1 := e1
    rw [e1']
    have e3 : ld m1 (h + 14) (s / 4) = ld m (h + 14) (s / 4) := fr_ld e2 (by omega) (by omega)
    unfold cH_openDoors_88 cH_openDoors_112
    rw [idv_nn gs.1 (by omega) (by decide) (by decide), cell_in gq.1 (by omega), bnd_some, setCell_in gq.1 (by omega), bnd_some, ban_65 ho.1 ho.2, e3]
    refine ⟨_, rfl, fo_trans (fo_fr e2) (fun b k g1 g2 g3 => by unfold st; rw [if_neg (fun z => g3 z.1)]), ?_⟩
    intro s' hv'
    have gs' := vs_s w.1 hv'
    have eM : ∀ k, ld m1 (h + 14) k = ld m (h + 14) k := fun k => fr_ld e2 (by omega) (by omega)
    unfold mby
    by_cases hq : s' / 4 = s / 4
    · rw [hq, ld_st_eq]
      have hw : w32 (bor (ld m (h + 14) (s / 4)) (shl (64 + od G s) (8 * (s % 4)))) = bor (ld m (h + 14) (s / 4)) (shl (64 + od G s) (8 * (s % 4))) := w32_of _
      rw [hw]
      obtain ⟨sa, hsa⟩ : ∃ sa : Nat, 8 * (s % 4) = (sa : Int) := ⟨(8 * (s % 4)).toNat, by omega⟩
      obtain ⟨sc, hsc⟩ : ∃ sc : Nat, 8 * (s' % 4) = (sc : Int) := ⟨(8 * (s' % 4)).toNat, by omega⟩
      rw [hsa, hsc]
      have hb := byte_set (r := ld m (h + 14) (s / 4)) (v := 64 + od G s) (a := sa) (b := sc) (by omega) (by omega) (by omega) (by omega) (by rw [← hsa]; exact h0)
      rw [hb]
      by_cases hss : sc = sa
      · rw [if_pos hss]
        have : s' = s := by omega
        rw [this]
        exact Or.inr rfl
      · rw [if_neg hss, ← hsc, ← hq]
        exact M s' hv'
    · rw [ld_st_ne hq, eM]
      exact M s' hv'
  · rw [h0, w32_id (x := 64 + od G s) (by omega) (by omega), if_neg (by omega)]
    unfold cH_openDoors_112
    rw [ban_65 ho.1 ho.2]
    exact ⟨m, rfl, fo_refl, M⟩
end OD
