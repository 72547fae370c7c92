/-! the calls that only tell -/
def rg (v : Int) : Prop := -2147483648 ≤ v ∧ v ≤ 2147483647
theorem w32_rg {v : Int} (h : rg v) : w32 v = v := w32_id h.1 h.2
theorem al2 : aln 2 = 1600 := rfl
theorem al12 : aln 12 = 313 := rfl
theorem al13 : aln 13 = 1296 := rfl
theorem al14 : aln 14 = 1296 := rfl
theorem al15 : aln 15 = 1296 := rfl
theorem al17 : aln 17 = 20 := rfl
theorem al19 : aln 19 = 20 := rfl
theorem al20 : aln 20 = 20 := rfl
theorem al22 : aln 22 = 43 := rfl
theorem al44 : aln 44 = 3 := rfl
theorem al45 : aln 45 = 2 := rfl
theorem al46 : aln 46 = 11 := rfl
theorem al47 : aln 47 = 6 := rfl
theorem al79 : aln 79 = 1600 := rfl
theorem al80 : aln 80 = 6 := rfl
theorem al102 : aln 102 = 48 := rfl
theorem al111 : aln 111 = 127 := rfl
theorem al112 : aln 112 = 20 := rfl
theorem al113 : aln 113 = 10000 := rfl
theorem al114 : aln 114 = 10000 := rfl
theorem al115 : aln 115 = 10000 := rfl
theorem al116 : aln 116 = 10000 := rfl
theorem al117 : aln 117 = 40 := rfl
theorem al118 : aln 118 = 2540 := rfl
theorem al141 : aln 141 = 11 := rfl
theorem okI_v {f g : xm → xr} (h : ∀ m, Inv m → ∃ r, f m = some (r, m) ∧ g m = some (r, m)) : okI f g := okI_same (fun m hi => by
  obtain ⟨r, h1, h2⟩ := h m hi
  exact ⟨r, r, h1, h2, rfl⟩)
theorem ok_fault {v : Int} : okI (cL_fault v) (r_fault v) := okI_v (fun m hi => by
  obtain ⟨G, -, -, -, -, ⟨f1, f2⟩, -⟩ := hi
  refine ⟨if w32 v = 0 then ld m 78 7 else if w32 v = 1 then ld m 78 8 else -1, ?_, ?_⟩
  · unfold cL_fault cW_faultKind cW_faultPlace
    simp only [bnd_some, f1, f2]
    split
    · rfl
    · split <;> rfl
  · unfold r_fault
    split
    · rfl
    · split <;> rfl)
theorem ok_status {v : Int} (hv : rg v) : okI (cL_status v) (r_status v) := okI_v (fun m hi => by
  obtain ⟨G, -, -, -, -, -, hr, -⟩ := hi
  obtain ⟨v1, v2⟩ := hv
  refine ⟨if 0 ≤ v ∧ v ≤ 5 then ld m 80 v else -1, ?_, ?_⟩
  · unfold cL_status
    rw [w32_id v1 v2]
    by_cases h : 0 ≤ v ∧ v ≤ 5
    · rw [if_neg (by omega), if_neg (by omega), if_pos h, cell_in h.1 (by rw [al47]; omega), bnd_some, hr v h.1 (by omega)]
    · rw [if_neg h]
      split
      · rfl
      · rw [if_pos (by omega)]
  · unfold r_status
    rw [w32_id v1 v2, r_isIn_ok (by omega) (by omega) (by omega) (by omega) (by omega) (by omega), bnd_some]
    by_cases h : 0 ≤ v ∧ v ≤ 5
    · rw [if_pos h, if_neg (by decide), ial_in h.1 (by rw [al80]; omega), if_pos h]
    · rw [if_neg h, if_pos (by decide), if_neg h])
theorem ok_octet {v : Int} (hv : rg v) : okI (cL_octet v) (r_octet v) := okI_v (fun m hi => by
  obtain ⟨G, -, -, -, -, -, -, -, -, -, ⟨i1, i2, i3, i4⟩, -⟩ := hi
  obtain ⟨v1, v2⟩ := hv
  refine ⟨if v < 0 then -1 else if ld m 78 94 ≤ v then -1 else ld m 141 v, ?_, ?_⟩
  · unfold cL_octet
    rw [w32_id v1 v2, i1]
    split
    · rfl
    · split
      · rfl
      · rw [cell_in (by omega) (by rw [al46]; omega), bnd_some, i4 v (by omega) (by omega)]
  · unfold r_octet
    rw [w32_id v1 v2]
    split
    · rfl
    · split
      · rfl
      · rw [ial_in (by omega) (by rw [al141]; omega)])
theorem ok_judged {v : Int} (hv : rg v) : okI (cL_judged v) (r_judged v) := okI_v (fun m hi => by
  obtain ⟨G, -, -, -, -, -, -, -, ⟨j1, j2⟩, -⟩ := hi
  obtain ⟨v1, v2⟩ := hv
  refine ⟨if ld m 78 47 = 0 then -1 else if v = 0 then ld m 78 48 else if v = 1 then ld m 78 49 else if v = 2 then ld m 78 50 else -1, ?_, ?_⟩
  · unfold cL_judged
    rw [w32_id v1 v2, ← j1]
    split
    · rfl
    · next h0 =>
      obtain ⟨k0, k1, k2⟩ := j2 h0
      split
      · rw [if_neg (by omega), if_neg (by omega), if_neg (by omega)]
      · split
        · rw [if_neg (by omega), if_neg (by omega), if_neg (by omega)]
        · rw [cell_in (by omega) (by rw [al44]; omega), bnd_some]
          rcases (show v = 0 ∨ v = 1 ∨ v = 2 by omega) with rfl | rfl | rfl
          · rw [k0]; rfl
          · rw [k1]; rfl
          · rw [k2]; rfl
  · unfold r_judged
    rw [w32_id v1 v2]
    (repeat' split) <;> rfl)
theorem ok_slipped {v : Int} (hv : rg v) : okI (cL_slipped v) (r_slipped v) := okI_v (fun m hi => by
  obtain ⟨G, -, -, -, -, -, -, -, -, ⟨j1, j2⟩, -⟩ := hi
  obtain ⟨v1, v2⟩ := hv
  refine ⟨if v = 0 then ld m 78 56 else if v = 1 then ld m 78 57 else -1, ?_, ?_⟩
  · unfold cL_slipped
    rw [w32_id v1 v2]
    split
    · next h0 =>
      obtain ⟨k0, k1⟩ := j1 h0
      rw [k0, k1]
      (repeat' split) <;> rfl
    · next h0 =>
      obtain ⟨k0, k1⟩ := j2 h0
      split
      · rw [if_neg (by omega), if_neg (by omega)]
      · split
        · rw [if_neg (by omega), if_neg (by omega)]
        · rw [cell_in (by omega) (by rw [al45]; omega), bnd_some]
          rcases (show v = 0 ∨ v = 1 by omega) with rfl | rfl
          · rw [k0]; rfl
          · rw [k1]; rfl
  · unfold r_slipped
    rw [w32_id v1 v2]
    (repeat' split) <;> rfl)
theorem cY_state_ok {m : xm} : cY_state m = some (ld m 22 0, m) := by
  unfold cY_state
  rw [cell_in (by decide) (by rw [al22]; decide), bnd_some]
theorem cY_played_ok {m : xm} : cY_played m = some (ld m 22 1, m) := by
  unfold cY_played
  rw [cell_in (by decide) (by rw [al22]; decide), bnd_some]
theorem cY_keptCount_ok {m : xm} : cY_keptCount m = some (ld m 22 2, m) := by
  unfold cY_keptCount
  rw [cell_in (by decide) (by rw [al22]; decide), bnd_some]
theorem SN_NR {m : xm} {G : hv} (S : SN m G 22 110 0) : NR m G (ld m 22 0) := ⟨fun l g1 g2 => by have := S.2.1 l g1 g2; rwa [show (0 : Int) + 1 + l = 1 + l by omega] at this, S.2.2.1⟩
theorem ok_kept {k v : Int} (hk : rg k) (hv : rg v) : okI (cL_kept k v) (r_kept k v) := okI_v (fun m hi => by
  obtain ⟨G, -, ⟨-, -, -, -, ⟨s1, s2, s3⟩, s4⟩, -⟩ := hi
  obtain ⟨k1, k2⟩ := hk
  obtain ⟨v1, v2⟩ := hv
  rw [show (0 : Int) + 6 = 6 by rfl] at s1
  refine ⟨if 0 ≤ k ∧ k ≤ ld m 110 6 - 1 then (if 0 ≤ v ∧ v ≤ 2 then ld m 110 (7 + 3 * k + v) else -1) else -1, ?_, ?_⟩
  · unfold cL_kept cY_keptPart
    rw [w32_id k1 k2, w32_id v1 v2, cY_keptCount_ok, bnd_some, w32_ld, ← s1]
    by_cases h : 0 ≤ k ∧ k ≤ ld m 22 2 - 1
    · obtain ⟨e1, e2, e3, e4⟩ := s4 k h.1 (by omega)
      simp only [Int.zero_add] at e1 e2 e3 e4
      rw [if_neg (show ¬ k < 0 by omega), if_pos (show k < ld m 22 2 by omega), if_pos h, cell_in (by omega) (by rw [al22]; omega), bnd_some]
      by_cases hw : 0 ≤ v ∧ v ≤ 2
      · rw [if_pos hw]
        rcases (show v = 0 ∨ v = 1 ∨ v = 2 by omega) with rfl | rfl | rfl
        · simp only [xsw, reduceIte]
          rw [idv_nn (by omega) (by omega) (by decide) (by decide), bnd_some, show 7 + 3 * k + 0 = 7 + 3 * k by omega, show ld m 22 (3 + k) / 16 = ld m 110 (7 + 3 * k) by omega]
        · simp only [xsw, reduceIte, Int.reduceAdd, Int.reduceEq]
          rw [idv_nn (by omega) (by omega) (by decide) (by decide), irm_nn (by omega) (by omega) (by decide) (by decide), bnd_some, show 7 + 3 * k + 1 = 8 + 3 * k by omega, show ld m 22 (3 + k) / 2 % 8 = ld m 110 (8 + 3 * k) by omega]
        · simp only [xsw, reduceIte, Int.reduceAdd, Int.reduceEq]
          rw [irm_nn (by omega) (by omega) (by decide) (by decide), bnd_some, show 7 + 3 * k + 2 = 9 + 3 * k by omega, show ld m 22 (3 + k) % 2 = ld m 110 (9 + 3 * k) by omega]
      · rw [if_neg hw]
        simp only [xsw]
        rw [if_neg (by omega), if_neg (by omega), if_neg (by omega), bnd_some]
    · rw [if_neg h]
      split
      · rw [bnd_some]
      · rw [if_neg (by omega), bnd_some]
  · unfold r_kept
    rw [ial_in (by decide) (by rw [al110]; decide), w32_id k1 k2, w32_id v1 v2, w32_id (x := ld m 110 6 - 1) (by omega) (by omega), r_isIn_ok (by omega) (by omega) (by omega) (by omega) (by omega) (by omega), bnd_some]
    by_cases h : 0 ≤ k ∧ k ≤ ld m 110 6 - 1
    · rw [if_pos h, if_neg (by decide), if_pos h, r_isIn_ok (by omega) (by omega) (by omega) (by omega) (by omega) (by omega), bnd_some]
      by_cases hw : 0 ≤ v ∧ v ≤ 2
      · rw [if_pos hw, if_neg (by decide), if_pos hw, ial_in (by omega) (by rw [al110]; omega)]
      · rw [if_neg hw, if_pos (by decide), if_neg hw]
    · rw [if_neg h, if_pos (by decide), if_neg h])
theorem cH_isOne_ok {m : xm} {h : Nat} {G : hv} (p : isH h) (w : wfG G) (c : CH m h G) {t i : Int} (ht : rg t) (hi : rg i) : cH_isOne h t i m = some (if 0 ≤ t ∧ t < 4 ∧ 0 ≤ i ∧ i < G 0 t then 1 else 0, m) := by
  by_cases q : 0 ≤ t ∧ t < 4 ∧ 0 ≤ i ∧ i < G 0 t
  · rw [if_pos q]
    exact cH_isOne_in p c q.1 q.2.1 q.2.2.1 q.2.2.2 (wf_cnt w t q.1 q.2.1).2
  · rw [if_neg q]
    exact cH_isOne_out p c (by rw [w32_rg ht, w32_rg hi]; exact q) (wf_cnt w)
/-- of one kind -/
theorem cH_isOne_k {m : xm} {h : Nat} {G : hv} (p : isH h) (w : wfG G) (c : CH m h G) {t i : Int} (h1 : 0 ≤ t) (h2 : t < 4) (hi : rg i) : cH_isOne h t i m = some (if 0 ≤ i ∧ i < G 0 t then 1 else 0, m) := by
  rw [cH_isOne_ok p w c ⟨by omega, by omega⟩ hi]
  by_cases q : 0 ≤ i ∧ i < G 0 t
  · rw [if_pos ⟨h1, h2, q.1, q.2⟩, if_pos q]
  · rw [if_neg (fun z => q z.2.2), if_neg q]
theorem ok_player {v : Int} (hv : rg v) : okI (cL_player v) (r_player v) := okI_v (fun m hi => by
  obtain ⟨G, ⟨w, -, -, c, -, r, -⟩, -⟩ := hi
  have gP := w.2.2.2.1
  have a := alnH (hl_or m 12)
  have hv0 := hv
  obtain ⟨v1, v2⟩ := hv
  refine ⟨if 0 ≤ v ∧ v < nP G then G 5 v else -1, ?_, ?_⟩
  · unfold cL_player cH_notesOf
    rw [cH_isOne_k (hl_or m 12) w c (by decide) (by decide) hv0, bnd_some]
    by_cases h : 0 ≤ v ∧ v < nP G
    · rw [if_pos h, if_pos (show 0 ≤ v ∧ v < G 0 3 from h), if_neg (by decide), cell_in h.1 (by omega), bnd_some, bnd_some, ch_pn c h.1 (by omega)]
    · rw [if_neg h, if_neg (show ¬ (0 ≤ v ∧ v < G 0 3) from h), if_pos (by decide)]
  · unfold r_player
    rw [r_playerMany_ok r, bnd_some, w32_id v1 v2, w32_id (x := nP G - 1) (by omega) (by omega), r_isIn_ok (by omega) (by omega) (by omega) (by omega) (by omega) (by omega), bnd_some]
    by_cases h : 0 ≤ v ∧ v < nP G
    · rw [if_pos (show 0 ≤ v ∧ v ≤ nP G - 1 by omega), if_neg (by decide), ial_in (by omega) (by rw [al105]; omega), if_pos h, r.2.2.2.2.1 v h.1 h.2]
    · rw [if_neg (show ¬ (0 ≤ v ∧ v ≤ nP G - 1) by omega), if_pos (by decide), if_neg h])
theorem wd_fs {G : hv} (w : wfG G) {l : Int} (h1 : 0 ≤ l) (h2 : l < 4) : wd G (fs G) l = if l < nL G then G 2 l else 0 := by
  unfold fs
  refine wd_mkS (w := fun l => if l < nL G then G 2 l else 0) (fun l g1 g2 => ?_) h1 h2
  by_cases q : l < nL G
  · have := w.2.2.2.2.2.1 l g1 q
    rw [if_pos q, wx_in g1 q]
    omega
  · rw [if_neg q, wx_out (fun z => q z.2)]
    omega
theorem jm_fs {G : hv} (w : wfG G) : jm G (fs G) = 0 := by
  unfold fs
  refine jm_mkS (fun l g1 g2 => ?_)
  by_cases q : l < nL G
  · have := w.2.2.2.2.2.1 l g1 q
    rw [if_pos q, wx_in g1 q]
    omega
  · rw [if_neg q, wx_out (fun z => q z.2)]
    omega
theorem vs_fs {G : hv} (w : wfG G) : vs G (fs G) := by
  unfold vs
  rw [jm_fs w]
  have := p2_le w.1.1 w.1.2.1
  omega
theorem bt_if {j l : Int} {m : xm} : (if w32 (bt j l) = 0 then some (0, m) else some (1, m)) = (some (bt j l, m) : xr) := by
  rcases bt_01 j l with e | e
  · rw [e]; rfl
  · rw [e]; rfl
theorem ok_lock {l v : Int} (hl0 : rg l) (hv : rg v) : okI (cL_lock l v) (r_lock l v) := okI_v (fun m hi => by
  obtain ⟨G, ⟨w, -, -, c, -, r, -⟩, S, -⟩ := hi
  have N := SN_NR S
  have hs := S.1
  have p := hl_or m 12
  have gL := w.1.1
  have gL2 := w.1.2.1
  have gs := vs_s w.1 hs
  have gf := vs_s w.1 (vs_fs w)
  have hl1 := hl0
  obtain ⟨l1, l2⟩ := hl0
  obtain ⟨v1, v2⟩ := hv
  refine ⟨if 0 ≤ l ∧ l < nL G then (if v = 0 then wx G l else if v = 1 then wd G (ld m 22 0) l else if v = 2 then G 2 l else if v = 3 then G 3 l else if v = 4 then bt (jm G (ld m 22 0)) l else -1) else -1, ?_, ?_⟩
  · unfold cL_lock
    rw [cH_isOne_k p w c (by decide) (by decide) hl1, bnd_some, w32_id v1 v2]
    by_cases h : 0 ≤ l ∧ l < nL G
    · rw [if_pos (show 0 ≤ l ∧ l < G 0 0 from h), if_pos h, if_neg (by decide)]
      simp only [xsw, Int.reduceAdd]
      unfold cH_firstState
      rw [cY_state_ok, bnd_some, bnd_some, bnd_some, ch_fs c, cH_wardsOf_ok p w.1 c h.1 h.2, cH_wardOf_ok p w.1 c gs.1 (by omega) h.1 h.2, cH_wardOf_ok p w.1 c gf.1 (by omega) h.1 h.2, cH_jamWardOf_ok p w.1 c h.1 h.2, cH_isJammed_ok w.1 c hs h.1 (by omega), bnd_some, bnd_some, bnd_some, bnd_some, bnd_some, wd_fs w h.1 (by omega), if_pos h.2, bt_if]
      (repeat' split) <;> rfl
    · rw [if_neg (show ¬ (0 ≤ l ∧ l < G 0 0) from h), if_neg h, if_pos (by decide)]
  · unfold r_lock
    rw [r_isLockThere_ok w.1 r, bnd_some, w32_id l1 l2, w32_id v1 v2]
    by_cases h : 0 ≤ l ∧ l < nL G
    · rw [if_pos h, if_neg (by decide), if_pos h]
      simp only [xsw, Int.reduceAdd]
      rw [r_wardsOf_ok w.1 r h.1 h.2, r_wardNow_ok w.1 N h.1 h.2, r_isJammed_ok w.1 hs N h.1 (by omega), bnd_some, bnd_some, bnd_some]
      rw [bt_if]
      by_cases hq : v = 2 ∨ v = 3
      · unfold r_lock_56
        rcases hq with rfl | rfl
        · rw [ial_in (by omega) (by rw [al103]; omega), show 11 + 3 * l + 2 = 13 + 3 * l by omega, (r.2.2.1 l h.1 h.2).2.1]
          rfl
        · rw [ial_in (by omega) (by rw [al103]; omega), show 11 + 3 * l + 3 = 14 + 3 * l by omega, (r.2.2.1 l h.1 h.2).2.2]
          rfl
      · rw [if_neg (show ¬ v = 2 by omega), if_neg (show ¬ v = 3 by omega), if_neg (show ¬ v = 2 by omega), if_neg (show ¬ v = 3 by omega)]
        (repeat' split) <;> rfl
    · rw [if_neg h, if_pos (by decide), if_neg h])
