/-! the tape: feed, end; seed -/
theorem IG_TR {m m' : xm} {G : hv} (H : IG m G) (e : ∀ a k, ¬ (scr a k ∨ fTP a k ∨ fRF a k) → m' a k = m a k) (T : TP m') (R : RF m') : IG m' G := by
  obtain ⟨h1, h2, h3, h4, h5, h6, h7, h8, h9, h10, h11⟩ := H
  refine ⟨HI_cg h1 (fun a k z => e a k ?_), SN_cg h2 (fun k => e 22 k ?_) (fun k => e 110 k ?_), PS_cg h3 (fun a k z => e a k ?_), T, FA_cg h5 (fun a k z => e a k ?_), R, HE_cg h7 (fun a k z => e a k ?_), JU_cg h8 (fun a k z => e a k ?_), SL_cg h9 (fun a k z => e a k ?_), IM_cg h10 (fun a k z => e a k ?_), SE_cg h11 (fun a k z => e a k ?_)⟩
  · unfold fHI at z; unfold scr fTP fRF; omega
  · unfold scr fTP fRF; omega
  · unfold scr fTP fRF; omega
  · unfold fPS at z; unfold scr fTP fRF; omega
  · unfold fFA at z; unfold scr fTP fRF; omega
  · unfold fHE at z; unfold scr fTP fRF; omega
  · unfold fJU at z; unfold scr fTP fRF; omega
  · unfold fSL at z; unfold scr fTP fRF; omega
  · unfold fIM at z; unfold scr fTP fRF; omega
  · unfold fSE at z; unfold scr fTP fRF; omega
theorem st_at {m : xm} {a b : Nat} {k j v : Int} (h : ¬ (b = a ∧ j = k)) : st m a k v b j = m b j := by
  unfold st
  rw [if_neg h]
theorem cL_refuse_ok {m : xm} {k : Int} (h1 : 0 ≤ k) (h2 : k < 6) : cL_refuse k m = some (-1, st m 47 k (ld m 47 k + 1)) := by
  unfold cL_refuse
  rw [cell_in h1 (by rw [al47]; omega), bnd_some, setCell_in h1 (by rw [al47]; omega), bnd_some]
theorem r_refuses_ok {m : xm} {k : Int} (h1 : 0 ≤ k) (h2 : k < 6) : r_refuses k m = some (-1, st m 80 k (ld m 80 k + 1)) := by
  unfold r_refuses
  rw [ial_in h1 (by rw [al80]; omega), ias_in h1 (by rw [al80]; omega)]
/-- one more of both was refused -/
def inc (a : Nat) (k : Int) (m m' : xm) : Prop := m' = st m a k (ld m a k + 1)
theorem RF_inc {m m' : xm} {k : Int} (H : RF m) (e1 : ∀ i, ld m' 47 i = if i = k then w32 (ld m 47 k + 1) else ld m 47 i) (e2 : ∀ i, ld m' 80 i = if i = k then w32 (ld m 80 k + 1) else ld m 80 i) (hk : 0 ≤ k) (hk2 : k < 6) : RF m' := by
  intro i h1 h2
  rw [e1, e2, H k hk hk2, H i h1 h2]
theorem ld_inc {m : xm} {a : Nat} {k v : Int} (i : Int) : ld (st m a k v) a i = if i = k then w32 v else ld m a i := by
  by_cases h : i = k
  · rw [if_pos h, h, ld_st_eq]
  · rw [if_neg h, ld_st_ne h]
/-- both refuse: nothing else is changed -/
theorem ok_ref {f g : xm → xr} {m : xm} {G : hv} {k r r' : Int} (H : IG m G) (hk : 0 ≤ k) (hk2 : k < 6) (hf : f m = some (r, st m 47 k (ld m 47 k + 1))) (hg : ∀ m1, g (st m 47 k m1) = some (r', st (st m 47 k m1) 80 k (ld m 80 k + 1))) (hr : w32 r = w32 r') : ∃ r m1 r' m2, f m = some (r, m1) ∧ g m1 = some (r', m2) ∧ w32 r = w32 r' ∧ Inv m2 := by
  refine ⟨_, _, _, _, hf, hg _, hr, ⟨G, IG_TR H (fun a k z => ?_) (TP_cg H.2.2.2.1 (fun a k z => ?_)) (RF_inc (k := k) H.2.2.2.2.2.1 (fun i => ?_) (fun i => ?_) hk hk2)⟩⟩
  · unfold scr fTP fRF at z
    rw [st_at (by omega), st_at (by omega)]
  · unfold fTP at z
    rw [st_at (by omega), st_at (by omega)]
  · rw [ld_st_nc (by decide), ld_inc]
  · rw [ld_inc, ld_st_nc (by decide)]
theorem ok_seed {v : Int} (hv : rg v) : okI (cL_seed v) (r_seed v) := by
  intro m hi
  obtain ⟨G, H⟩ := hi
  have hv0 := hv
  obtain ⟨v1, v2⟩ := hv
  by_cases h : 0 ≤ v
  · have e1 : cL_seed v m = some (1, st m 0 17 v) := by
      unfold cL_seed
      rw [w32_id v1 v2, if_pos h, stf_eq]
    have e2 : r_seed v (st m 0 17 v) = some (1, st (st m 0 17 v) 78 63 v) := by
      unfold r_seed
      rw [w32_id v1 v2, if_pos h, stf_eq]
    refine ⟨_, _, _, _, e1, e2, rfl, ⟨G, ?_⟩⟩
    obtain ⟨h1, h2, h3, h4, h5, h6, h7, h8, h9, h10, h11⟩ := (show IG m G from H)
    have e : ∀ a k, ¬ (a = 0 ∧ k = 17 ∨ a = 78 ∧ k = 63) → (st (st m 0 17 v) 78 63 v) a k = m a k := fun a k z => by rw [st_at (by omega), st_at (by omega)]
    refine ⟨HI_cg h1 (fun a k z => e a k ?_), SN_cg h2 (fun k => e 22 k ?_) (fun k => e 110 k ?_), PS_cg h3 (fun a k z => e a k ?_), TP_cg h4 (fun a k z => e a k ?_), FA_cg h5 (fun a k z => e a k ?_), RF_cg h6 (fun a k z => e a k ?_), HE_cg h7 (fun a k z => e a k ?_), JU_cg h8 (fun a k z => e a k ?_), SL_cg h9 (fun a k z => e a k ?_), IM_cg h10 (fun a k z => e a k ?_), ?_⟩
    · unfold fHI at z; omega
    · omega
    · omega
    · unfold fPS at z; omega
    · unfold fTP at z; omega
    · unfold fFA at z; omega
    · unfold fRF at z; omega
    · unfold fHE at z; omega
    · unfold fJU at z; omega
    · unfold fSL at z; omega
    · unfold fIM at z; omega
    · unfold SE
      rw [ldl_st_eq, ldl_st_nc (by decide), ldl_st_eq, w64_id (by omega) (by omega)]
      omega
  · refine ok_ref H (k := 5) (r := 0) (r' := 0) (by decide) (by decide) ?_ (fun x => ?_) rfl
    · unfold cL_seed
      rw [w32_id v1 v2, if_neg h, cL_refuse_ok (by decide) (by decide), bnd_some]
    · unfold r_seed
      rw [w32_id v1 v2, if_neg h, ial_in (by decide) (by rw [al80]; decide), ias_in (by decide) (by rw [al80]; decide), ld_st_nc (by decide)]
theorem cT_cut_ok {m : xm} {n : Int} (h1 : 0 ≤ n) (h2 : n ≤ ld m 1 1) : cT_cut n m = some (0, st m 1 1 n) := by
  have h3 := ld_le m 1 1
  unfold cT_cut j_minI j_maxI
  rw [w32_ld, w32_id (x := n) (by omega) (by omega), w32_id (x := 0) (by decide) (by decide)]
  by_cases c : ld m 1 1 < n
  · omega
  · rw [if_neg c, bnd_some, w32_id (x := n) (by omega) (by omega)]
    by_cases d : 0 < n
    · rw [if_pos d, bnd_some, stf_eq]
    · rw [if_neg d, bnd_some, stf_eq, show n = 0 by omega]
theorem ok_end {v : Int} (hv : rg v) : okI (cL_end v) (r_end v) := by
  intro m hi
  obtain ⟨G, H⟩ := hi
  obtain ⟨v1, v2⟩ := hv
  obtain ⟨t1, t2, t3, t4⟩ := (show IG m G from H).2.2.2.1
  by_cases h : 0 ≤ v ∧ v ≤ ld m 1 1
  · have e1 : cL_end v m = some (1, st m 1 1 v) := by
      unfold cL_end cT_length
      rw [w32_id v1 v2, if_neg (by omega), bnd_some, w32_ld, if_pos h.2, cT_cut_ok h.1 h.2, bnd_some]
    have e2 : r_end v (st m 1 1 v) = some (1, st (st m 1 1 v) 78 1 v) := by
      unfold r_end
      rw [w32_id v1 v2, if_neg (by omega), ld_st_nc (by decide), ← t1, if_pos h.2, stf_eq]
    refine ⟨_, _, _, _, e1, e2, rfl, ⟨G, IG_TR H (fun a k z => ?_) ?_ (RF_cg (show IG m G from H).2.2.2.2.2.1 (fun a k z => ?_))⟩⟩
    · unfold scr fTP fRF at z
      rw [st_at (by omega), st_at (by omega)]
    · unfold TP
      rw [ld_st_nc (by decide), ld_st_eq, ld_st_eq, w32_id v1 v2]
      refine ⟨rfl, h.1, by omega, fun i g1 g2 => ?_⟩
      rw [ld_st_nc (by decide), ld_st_nc (by decide), ld_st_nc (by decide), ld_st_nc (by decide)]
      exact t4 i g1 (by omega)
    · unfold fRF at z
      rw [st_at (by omega), st_at (by omega)]
  · refine ok_ref H (k := 0) (r := 0) (r' := 0) (by decide) (by decide) ?_ (fun x => ?_) rfl
    · unfold cL_end cT_length cL_end_15
      rw [w32_id v1 v2, bnd_some, w32_ld]
      by_cases q : v < 0
      · rw [if_pos q, cL_refuse_ok (by decide) (by decide), bnd_some]
      · rw [if_neg q, if_neg (by omega), cL_refuse_ok (by decide) (by decide), bnd_some]
    · unfold r_end r_end_12
      rw [w32_id v1 v2, ld_st_nc (by decide), ← t1, ial_in (by decide) (by rw [al80]; decide), ias_in (by decide) (by rw [al80]; decide), ld_st_nc (by decide)]
      by_cases q : v < 0
      · rw [if_pos q]
      · rw [if_neg q, if_neg (by omega)]
/-- so many bytes come behind those on a tape: l the cell of its length at place lk, b the bytes' cell -/
def AX (l : Nat) (lk : Int) (b : Nat) (n : Int) (f : Int → Int) (m m' : xm) : Prop := ld m' l lk = ld m l lk + n ∧ (∀ j, 0 ≤ j → j < n → ld m' b (ld m l lk + j) = f j) ∧ (∀ j, j < ld m l lk → ld m' b j = ld m b j) ∧ ∀ a k, a ≠ b → ¬ (a = l ∧ k = lk) → m' a k = m a k
theorem AX_cat {l b : Nat} {lk n p : Int} {f g : Int → Int} {m m1 m2 : xm} (hn : 0 ≤ n) (h1 : AX l lk b n f m m1) (h2 : AX l lk b p g m1 m2) : AX l lk b (n + p) (fun j => if j < n then f j else g (j - n)) m m2 := by
  obtain ⟨a1, a2, a3, a4⟩ := h1
  obtain ⟨b1, b2, b3, b4⟩ := h2
  refine ⟨by omega, fun j g1 g2 => ?_, fun j g1 => ?_, fun a k g1 g2 => by rw [b4 a k g1 g2, a4 a k g1 g2]⟩
  · dsimp only
    by_cases hj : j < n
    · rw [if_pos hj, b3 _ (by omega), a2 j g1 hj]
    · rw [if_neg hj, show ld m l lk + j = ld m1 l lk + (j - n) by omega, b2 (j - n) (by omega) (by omega)]
  · rw [b3 j (by omega), a3 j g1]
theorem AX_fn {l b : Nat} {lk n : Int} {f g : Int → Int} {m m' : xm} (h : AX l lk b n f m m') (e : ∀ j, 0 ≤ j → j < n → f j = g j) : AX l lk b n g m m' := ⟨h.1, fun j g1 g2 => by rw [h.2.1 j g1 g2, e j g1 g2], h.2.2.1, h.2.2.2⟩
theorem ban255_0 (x : Int) : 0 ≤ ban x 255 ∧ ban x 255 ≤ 255 := by
  have e : (i32 (ban x 255)).toBitVec = (i32 x).toBitVec &&& 255#32 := by
    rw [ban_i, Int32.toBitVec_and]
    rfl
  have h1 : ((i32 x).toBitVec &&& 255#32).toNat ≤ 255 := by
    rw [BitVec.toNat_and]
    exact Nat.and_le_right
  have h2 : (i32 (ban x 255)).toInt = ban x 255 := w32_of _
  have h3 : (i32 (ban x 255)).toInt = (((i32 x).toBitVec &&& 255#32).toNat : Int) := by
    show (i32 (ban x 255)).toBitVec.toInt = _
    rw [e, BitVec.toInt_eq_toNat_of_lt (by omega)]
  omega
theorem shr_i (x y : Int) : i32 (shr x y) = i32 x >>> (i32 y &&& 31) := Int32.ofInt_toInt _
theorem byt_s (x : BitVec 32) (b : Nat) (hb : b ≤ 24) : x.sshiftRight b &&& 255#32 = (x >>> b) &&& 255#32 := by
  apply BitVec.eq_of_getLsbD_eq
  intro i hi
  have h255 : ∀ i, i < 32 → (255#32).getLsbD i = decide (i < 8) := by decide
  simp only [BitVec.getLsbD_and, BitVec.getLsbD_ushiftRight, BitVec.getLsbD_sshiftRight, h255 i hi]
  by_cases h8 : i < 8
  · rw [decide_eq_true h8, decide_eq_false (show ¬ 32 ≤ i by omega), if_pos (by omega)]
    simp
  · rw [decide_eq_false h8]
    simp
theorem byte_sr {x : Int} {b : Nat} (hb : b = 0 ∨ b = 8 ∨ b = 16 ∨ b = 24) : ban (shr x (b : Int)) 255 = ban (usr x (b : Int)) 255 := by
  apply ban_ext
  rw [byte_bv hb, ban_i, Int32.toBitVec_and, shr_i, ← byt_s _ _ (by omega)]
  rcases hb with rfl | rfl | rfl | rfl <;> rfl
theorem cT_addByte_ok {m : xm} {x : Int} (h1 : 0 ≤ ld m 1 1) (h2 : ld m 1 1 < 1600) (hx : rg x) : ∃ m', cT_addByte x m = some (0, m') ∧ AX 1 1 2 1 (fun _ => x) m m' := by
  have e : cT_addByte x m = some (0, st (st m 2 (ld m 1 1) x) 1 1 (ld m 1 1 + 1)) := by
    unfold cT_addByte
    rw [if_neg (by omega), setCell_in h1 (by rw [al2]; omega), bnd_some, stf_eq, ld_st_nc (by decide)]
  refine ⟨_, e, ?_, fun j g1 g2 => ?_, fun j g1 => ?_, fun a k g1 g2 => ?_⟩
  · rw [ld_st_eq, w32_id (by omega) (by omega)]
  · rw [ld_st_nc (by decide), show ld m 1 1 + j = ld m 1 1 by omega, ld_st_eq, w32_rg hx]
  · rw [ld_st_nc (by decide), ld_st_ne (by omega)]
  · rw [st_at g2, st_at (fun z => g1 z.1)]
def fby (v j : Int) : Int := ban (usr v (24 - 8 * j)) 255
theorem fby_rg (v j : Int) : rg (fby v j) := by
  have := ban255_0 (usr v (24 - 8 * j))
  unfold fby rg
  omega
theorem cT_addNumber_ok {m : xm} {v : Int} (h1 : 0 ≤ ld m 1 1) (h2 : ld m 1 1 + 4 ≤ 1600) : ∃ m', cT_addNumber v m = some (0, m') ∧ AX 1 1 2 4 (fby v) m m' := by
  have step : ∀ (f : Nat) (k : Nat) (m : xm), k < 4 → 0 ≤ ld m 1 1 → ld m 1 1 < 1600 → ∃ m', cT_addNumber_3 (f + 1) v (24 - 8 * (k : Int)) m = cT_addNumber_3 f v (24 - 8 * ((k + 1 : Nat) : Int)) m' ∧ AX 1 1 2 1 (fun _ => fby v k) m m' := by
    intro f k m hk g1 g2
    obtain ⟨m', e1, e2⟩ := cT_addByte_ok g1 g2 (fby_rg v k)
    refine ⟨m', ?_, e2⟩
    rw [cT_addNumber_3, w32_id (x := 24 - 8 * (k : Int)) (by omega) (by omega), if_neg (by omega)]
    have e1' : cT_addByte (ban (usr v (24 - 8 * (k : Int))) 255) m = some (0, m') := e1
    rw [e1', bnd_some, show 24 - 8 * (k : Int) + -8 = 24 - 8 * ((k + 1 : Nat) : Int) by omega]
  unfold cT_addNumber
  rw [show xLF = 19995 + 1 + 1 + 1 + 1 + 1 from rfl, show (24 : Int) = 24 - 8 * ((0 : Nat) : Int) by rfl]
  obtain ⟨m1, p1, q1⟩ := step (19995 + 1 + 1 + 1 + 1) 0 m (by decide) h1 (by omega)
  obtain ⟨m2, p2, q2⟩ := step (19995 + 1 + 1 + 1) 1 m1 (by decide) (by rw [q1.1]; omega) (by rw [q1.1]; omega)
  obtain ⟨m3, p3, q3⟩ := step (19995 + 1 + 1) 2 m2 (by decide) (by rw [q2.1, q1.1]; omega) (by rw [q2.1, q1.1]; omega)
  obtain ⟨m4, p4, q4⟩ := step (19995 + 1) 3 m3 (by decide) (by rw [q3.1, q2.1, q1.1]; omega) (by rw [q3.1, q2.1, q1.1]; omega)
  refine ⟨m4, ?_, ?_⟩
  · rw [p1, p2, p3, p4, cT_addNumber_3, w32_id (by decide) (by decide), if_pos (by decide)]
  · refine AX_fn (AX_cat (by decide) (AX_cat (by decide) (AX_cat (by decide) q1 q2) q3) q4) (fun j g1 g2 => ?_)
    rcases in4 g1 g2 with rfl | rfl | rfl | rfl <;> rfl
/-- byte j of the twenty -/
def fd (a b c d e j : Int) : Int := fby (if j < 4 then a else if j < 8 then b else if j < 12 then c else if j < 16 then d else e) (j % 4)
theorem cL_feed_ok {m : xm} {a b c d e : Int} (h1 : 0 ≤ ld m 1 1) (h2 : ld m 1 1 + 20 ≤ 1600) : ∃ m', cL_feed a b c d e m = some (ld m 1 1 + 20, m') ∧ AX 1 1 2 20 (fd a b c d e) m m' := by
  unfold cL_feed cT_length
  obtain ⟨m1, p1, q1⟩ := cT_addNumber_ok (m := m) (v := a) h1 (by omega)
  obtain ⟨m2, p2, q2⟩ := cT_addNumber_ok (m := m1) (v := b) (by rw [q1.1]; omega) (by rw [q1.1]; omega)
  obtain ⟨m3, p3, q3⟩ := cT_addNumber_ok (m := m2) (v := c) (by rw [q2.1, q1.1]; omega) (by rw [q2.1, q1.1]; omega)
  obtain ⟨m4, p4, q4⟩ := cT_addNumber_ok (m := m3) (v := d) (by rw [q3.1, q2.1, q1.1]; omega) (by rw [q3.1, q2.1, q1.1]; omega)
  obtain ⟨m5, p5, q5⟩ := cT_addNumber_ok (m := m4) (v := e) (by rw [q4.1, q3.1, q2.1, q1.1]; omega) (by rw [q4.1, q3.1, q2.1, q1.1]; omega)
  have hA := AX_fn (g := fd a b c d e) (AX_cat (by decide) (AX_cat (by decide) (AX_cat (by decide) (AX_cat (by decide) q1 q2) q3) q4) q5) (fun j g1 g2 => by
    unfold fd
    by_cases c1 : j < 4
    · rw [if_pos (show j < 4 + 4 + 4 + 4 by omega), if_pos (show j < 4 + 4 + 4 by omega), if_pos (show j < 4 + 4 by omega), if_pos c1, if_pos c1, show j % 4 = j by omega]
    · by_cases c2 : j < 8
      · rw [if_pos (show j < 4 + 4 + 4 + 4 by omega), if_pos (show j < 4 + 4 + 4 by omega), if_pos (show j < 4 + 4 by omega), if_neg c1, if_neg c1, if_pos c2, show j % 4 = j - 4 by omega]
      · by_cases c3 : j < 12
        · rw [if_pos (show j < 4 + 4 + 4 + 4 by omega), if_pos (show j < 4 + 4 + 4 by omega), if_neg (show ¬ j < 4 + 4 by omega), if_neg c1, if_neg c2, if_pos c3, show j % 4 = j - (4 + 4) by omega]
        · by_cases c4 : j < 16
          · rw [if_pos (show j < 4 + 4 + 4 + 4 by omega), if_neg (show ¬ j < 4 + 4 + 4 by omega), if_neg c1, if_neg c2, if_neg c3, if_pos c4, show j % 4 = j - (4 + 4 + 4) by omega]
          · rw [if_neg (show ¬ j < 4 + 4 + 4 + 4 by omega), if_neg c1, if_neg c2, if_neg c3, if_neg c4, show j % 4 = j - (4 + 4 + 4 + 4) by omega])
  refine ⟨m5, ?_, hA⟩
  rw [bnd_some, w32_id (x := ld m 1 1 + 20) (by omega) (by omega), if_pos h2, p1, bnd_some, p2, bnd_some, p3, bnd_some, p4, bnd_some, p5, bnd_some, bnd_some, hA.1]
  rfl
theorem r_feed_loop {a b c d e : Int} : ∀ (f k : Nat) {m0 m : xm}, k ≤ 20 → 20 - k < f → 0 ≤ ld m0 78 1 → ld m0 78 1 + 20 ≤ 1600 → AX 78 1 79 (k : Int) (fd a b c d e) m0 m → ∃ m', r_feed_28 f a b c d e (k : Int) m = some (ld m0 78 1 + 20, m') ∧ AX 78 1 79 20 (fd a b c d e) m0 m' := by
  intro f
  induction f with
  | zero => intro k m0 m _ hf; omega
  | succ f ih =>
    intro k m0 m hk hf h1 h2 hA
    rw [r_feed_28, w32_id (x := (k : Int)) (by omega) (by omega)]
    by_cases hk20 : k = 20
    · subst hk20
      rw [if_pos (by decide)]
      unfold r_feed_124
      rw [hA.1]
      exact ⟨m, rfl, hA⟩
    · have hl := hA.1
      have e81 : ∀ x, r_feed_81 (fun v1 v2 v3 v4 v5 v6 m => r_feed_28 f v1 v2 v3 v4 v5 v6 m) a b c d e (k : Int) x m = r_feed_28 f a b c d e ((k + 1 : Nat) : Int) (st (st m 79 (ld m 78 1) (fby x ((k : Int) % 4))) 78 1 (ld m 78 1 + 1)) := by
        intro x
        unfold r_feed_81
        rw [xlt_eq, irm_nn (by omega) (by omega) (by decide) (by decide)]
        have eb : ban (shr x (8 * (3 - (k : Int) % 4))) 255 = fby x ((k : Int) % 4) := by
          obtain ⟨sh, hsh⟩ : ∃ sh : Nat, 8 * (3 - (k : Int) % 4) = (sh : Int) := ⟨(8 * (3 - (k : Int) % 4)).toNat, by omega⟩
          unfold fby
          rw [hsh, byte_sr (by omega), ← hsh, show 8 * (3 - (k : Int) % 4) = 24 - 8 * ((k : Int) % 4) by omega]
        rw [eb, ias_in (by omega) (by rw [al79]; omega), stf_eq, ld_st_nc (by decide)]
        rfl
      have hn : ∀ x, x = (if (k : Int) < 4 then a else if (k : Int) < 8 then b else if (k : Int) < 12 then c else if (k : Int) < 16 then d else e) → ∃ m', r_feed_28 f a b c d e ((k + 1 : Nat) : Int) (st (st m 79 (ld m 78 1) (fby x ((k : Int) % 4))) 78 1 (ld m 78 1 + 1)) = some (ld m0 78 1 + 20, m') ∧ AX 78 1 79 20 (fd a b c d e) m0 m' := by
        intro x hx
        refine ih (k + 1) (by omega) (by omega) h1 h2 ?_
        have h3 := fby_rg x ((k : Int) % 4)
        refine ⟨?_, fun j g1 g2 => ?_, fun j g1 => ?_, fun y z g1 g2 => ?_⟩
        · rw [ld_st_eq, w32_id (by omega) (by omega)]
          omega
        · rw [ld_st_nc (by decide)]
          by_cases hj : j = (k : Int)
          · rw [hj, ← hl, ld_st_eq, w32_rg h3, hx]
            rfl
          · rw [ld_st_ne (by omega), hA.2.1 j g1 (by omega)]
        · rw [ld_st_nc (by decide), ld_st_ne (by omega), hA.2.2.1 j g1]
        · rw [st_at g2, st_at (fun q => g1 q.1), hA.2.2.2 y z g1 g2]
      rw [if_neg (by omega), e81, e81, e81, e81, e81]
      by_cases c1 : (k : Int) < 4
      · rw [if_neg (by omega)]
        exact hn a (by rw [if_pos c1])
      · rw [if_pos (by omega)]
        by_cases c2 : (k : Int) < 8
        · rw [if_neg (by omega)]
          exact hn b (by rw [if_neg c1, if_pos c2])
        · rw [if_pos (by omega)]
          by_cases c3 : (k : Int) < 12
          · rw [if_neg (by omega)]
            exact hn c (by rw [if_neg c1, if_neg c2, if_pos c3])
          · rw [if_pos (by omega)]
            by_cases c4 : (k : Int) < 16
            · rw [if_neg (by omega)]
              exact hn d (by rw [if_neg c1, if_neg c2, if_neg c3, if_pos c4])
            · rw [if_pos (by omega)]
              exact hn e (by rw [if_neg c1, if_neg c2, if_neg c3, if_neg c4])
theorem ok_feed {a b c d e : Int} : okI (cL_feed a b c d e) (r_feed a b c d e) := by
  intro m hi
  obtain ⟨G, H⟩ := hi
  obtain ⟨t1, t2, t3, t4⟩ := (show IG m G from H).2.2.2.1
  by_cases h : ld m 1 1 + 20 ≤ 1600
  · obtain ⟨m1, e1, A1⟩ := cL_feed_ok (a := a) (b := b) (c := c) (d := d) (e := e) t2 h
    have e78 : ld m1 78 1 = ld m 78 1 := ldq (A1.2.2.2 78 1 (by decide) (by decide))
    obtain ⟨m2, e2, A2⟩ := r_feed_loop (a := a) (b := b) (c := c) (d := d) (e := e) xLF 0 (m0 := m1) (m := m1) (by decide) (by rw [xLF_eq]; decide) (by omega) (by omega) ⟨by omega, fun j g1 g2 => by omega, fun j g1 => rfl, fun _ _ _ _ => rfl⟩
    have e2' : r_feed a b c d e m1 = some (ld m1 78 1 + 20, m2) := by
      unfold r_feed
      rw [w32_id (x := ld m1 78 1 + 20) (by omega) (by omega), if_pos (by omega)]
      exact e2
    refine ⟨_, _, _, _, e1, e2', by rw [e78, t1], ⟨G, IG_TR H (fun x k z => ?_) ?_ (RF_cg (show IG m G from H).2.2.2.2.2.1 (fun x k z => ?_))⟩⟩
    · unfold scr fTP fRF at z
      rw [A2.2.2.2 x k (by omega) (by omega), A1.2.2.2 x k (by omega) (by omega)]
    · have l1 : ld m2 1 1 = ld m 1 1 + 20 := by rw [ldq (A2.2.2.2 1 1 (by decide) (by decide)), A1.1]
      have b1 : ∀ j, ld m2 2 j = ld m1 2 j := fun j => ldq (A2.2.2.2 2 j (by decide) (by omega))
      have b2 : ∀ j, ld m1 79 j = ld m 79 j := fun j => ldq (A1.2.2.2 79 j (by decide) (by omega))
      unfold TP
      rw [l1, A2.1, e78]
      refine ⟨by omega, by omega, by omega, fun i g1 g2 => ?_⟩
      rw [b1]
      by_cases hi2 : i < ld m 1 1
      · rw [A1.2.2.1 i hi2, A2.2.2.1 i (by omega), b2]
        exact t4 i g1 hi2
      · have q1 := A1.2.1 (i - ld m 1 1) (by omega) (by omega)
        have q2 := A2.2.1 (i - ld m 1 1) (by omega) (by omega)
        rw [show ld m 1 1 + (i - ld m 1 1) = i by omega] at q1
        rw [show ld m1 78 1 + (i - ld m 1 1) = i by omega] at q2
        rw [q1, q2]
        unfold fd fby
        exact ⟨rfl, ban255_0 _⟩
    · unfold fRF at z
      rw [A2.2.2.2 x k (by omega) (by omega), A1.2.2.2 x k (by omega) (by omega)]
  · refine ok_ref H (k := 0) (r := -1) (r' := -1) (by decide) (by decide) ?_ (fun x => ?_) rfl
    · unfold cL_feed cT_length
      rw [bnd_some, w32_id (x := ld m 1 1 + 20) (by omega) (by omega), if_neg h, cL_refuse_ok (by decide) (by decide), bnd_some]
    · unfold r_feed
      rw [ld_st_nc (by decide), ← t1, w32_id (x := ld m 1 1 + 20) (by omega) (by omega), if_neg h, ial_in (by decide) (by rw [al80]; decide), ias_in (by decide) (by rw [al80]; decide), ld_st_nc (by decide)]
