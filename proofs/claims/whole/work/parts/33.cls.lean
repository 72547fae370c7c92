/-! the cells of one of the program's halls, and what its questions answer -/
def bi (p : Prop) [Decidable p] : Int := if p then 1 else 0
def nk (G : hv) (n : Int) : Int := (if 0 < tT G n 0 then 1 else 0) + (if 0 < tT G n 1 then 2 else 0) + (if 0 < tT G n 2 then 4 else 0) + (if 0 < tT G n 3 then 8 else 0)
def fs (G : hv) : Int := mkS G (fun l => if l < nL G then G 2 l else 0) 0
def CH (m : xm) (h : Nat) (G : hv) : Prop :=
  (∀ k, 0 ≤ k → k < 4 → ld m (h + 4) k = G 0 k) ∧ ld m h 14 = ru G ∧ ld m h 12 = wy G ∧ ld m h 13 = fs G ∧
  (∀ l, 0 ≤ l → l < nL G → ld m (h + 6) l = G 1 l ∧ ld m (h + 7) l = G 3 l ∧ ld m (h + 8) l = pl G l) ∧
  (∀ n l, 0 ≤ n → n < 6 → 0 ≤ l → l < 4 → ld m (h + 9) (4 * n + l) = tT G n l) ∧
  (∀ n, 0 ≤ n → n < 6 → ld m (h + 10) n = nk G n) ∧
  (∀ p, 0 ≤ p → p < 5 → ld m (h + 11) p = G 5 p) ∧
  (∀ d, 0 ≤ d → d < nD G → ld m (h + 12) d = G 6 d ∧ ld m (h + 13) d = G 7 d) ∧
  (∀ d k, 0 ≤ d → d < nD G → G 6 d ≤ k → k < G 7 d → ld m (h + 2) k = G 8 k) ∧
  (∀ t i, 0 ≤ t → t < 4 → 0 ≤ i → i < G 0 t → ld m (h + 5) (6 * t + i) = G 9 (6 * t + i))
section CHA
variable {m : xm} {h : Nat} {G : hv}
theorem ch_cnt (c : CH m h G) {k : Int} (h1 : 0 ≤ k) (h2 : k < 4) : ld m (h + 4) k = G 0 k := c.1 k h1 h2
theorem ch_ru (c : CH m h G) : ld m h 14 = ru G := c.2.1
theorem ch_wy (c : CH m h G) : ld m h 12 = wy G := c.2.2.1
theorem ch_fs (c : CH m h G) : ld m h 13 = fs G := c.2.2.2.1
theorem ch_lk (c : CH m h G) {l : Int} (h1 : 0 ≤ l) (h2 : l < nL G) : ld m (h + 6) l = G 1 l ∧ ld m (h + 7) l = G 3 l ∧ ld m (h + 8) l = pl G l := c.2.2.2.2.1 l h1 h2
theorem ch_tT (c : CH m h G) {n l : Int} (h1 : 0 ≤ n) (h2 : n < 6) (h3 : 0 ≤ l) (h4 : l < 4) : ld m (h + 9) (4 * n + l) = tT G n l := c.2.2.2.2.2.1 n l h1 h2 h3 h4
theorem ch_nk (c : CH m h G) {n : Int} (h1 : 0 ≤ n) (h2 : n < 6) : ld m (h + 10) n = nk G n := c.2.2.2.2.2.2.1 n h1 h2
theorem ch_pn (c : CH m h G) {p : Int} (h1 : 0 ≤ p) (h2 : p < 5) : ld m (h + 11) p = G 5 p := c.2.2.2.2.2.2.2.1 p h1 h2
theorem ch_dr (c : CH m h G) {d : Int} (h1 : 0 ≤ d) (h2 : d < nD G) : ld m (h + 12) d = G 6 d ∧ ld m (h + 13) d = G 7 d := c.2.2.2.2.2.2.2.2.1 d h1 h2
theorem ch_cd (c : CH m h G) {d k : Int} (h1 : 0 ≤ d) (h2 : d < nD G) (h3 : G 6 d ≤ k) (h4 : k < G 7 d) : ld m (h + 2) k = G 8 k := c.2.2.2.2.2.2.2.2.2.1 d k h1 h2 h3 h4
theorem ch_nm (c : CH m h G) {t i : Int} (h1 : 0 ≤ t) (h2 : t < 4) (h3 : 0 ≤ i) (h4 : i < G 0 t) : ld m (h + 5) (6 * t + i) = G 9 (6 * t + i) := c.2.2.2.2.2.2.2.2.2.2 t i h1 h2 h3 h4
/-- the cells that CH reads -/
def chs (h : Nat) (a : Nat) (k : Int) : Prop := a = h + 2 ∨ (h + 4 ≤ a ∧ a ≤ h + 13) ∨ (a = h ∧ 12 ≤ k)
theorem CH_cg {m' : xm} (c : CH m h G) (e : ∀ a k, chs h a k → ld m' a k = ld m a k) : CH m' h G := by
  obtain ⟨c1, c2, c3, c4, c5, c6, c7, c8, c9, c10, c11⟩ := c
  have e2 : ∀ k, ld m' (h + 2) k = ld m (h + 2) k := fun k => e _ _ (Or.inl rfl)
  have eX : ∀ a k, h + 4 ≤ a → a ≤ h + 13 → ld m' a k = ld m a k := fun a k g1 g2 => e _ _ (Or.inr (Or.inl ⟨g1, g2⟩))
  refine ⟨fun k g1 g2 => ?_, ?_, ?_, ?_, fun l g1 g2 => ?_, fun n l g1 g2 g3 g4 => ?_, fun n g1 g2 => ?_, fun p g1 g2 => ?_, fun d g1 g2 => ?_, fun d k g1 g2 g3 g4 => ?_, fun t i g1 g2 g3 g4 => ?_⟩
  · rw [eX _ _ (by omega) (by omega)]; exact c1 k g1 g2
  · rw [e _ _ (Or.inr (Or.inr ⟨rfl, by decide⟩))]; exact c2
  · rw [e _ _ (Or.inr (Or.inr ⟨rfl, by decide⟩))]; exact c3
  · rw [e _ _ (Or.inr (Or.inr ⟨rfl, by decide⟩))]; exact c4
  · rw [eX _ _ (by omega) (by omega), eX _ _ (by omega) (by omega), eX _ _ (by omega) (by omega)]; exact c5 l g1 g2
  · rw [eX _ _ (by omega) (by omega)]; exact c6 n l g1 g2 g3 g4
  · rw [eX _ _ (by omega) (by omega)]; exact c7 n g1 g2
  · rw [eX _ _ (by omega) (by omega)]; exact c8 p g1 g2
  · rw [eX _ _ (by omega) (by omega), eX _ _ (by omega) (by omega)]; exact c9 d g1 g2
  · rw [e2]; exact c10 d k g1 g2 g3 g4
  · rw [eX _ _ (by omega) (by omega)]; exact c11 t i g1 g2 g3 g4
end CHA
theorem alnH {h : Nat} (p : isH h) : aln (h + 2) = 1600 ∧ aln (h + 3) = 64 ∧ aln (h + 4) = 4 ∧ aln (h + 5) = 24 ∧ aln (h + 6) = 4 ∧ aln (h + 7) = 4 ∧ aln (h + 8) = 4 ∧ aln (h + 9) = 24 ∧ aln (h + 10) = 6 ∧ aln (h + 11) = 5 ∧ aln (h + 12) = 6 ∧ aln (h + 13) = 6 ∧ aln (h + 14) = 2500 := by
  rcases p with rfl | rfl <;> exact ⟨rfl, rfl, rfl, rfl, rfl, rfl, rfl, rfl, rfl, rfl, rfl, rfl, rfl⟩
theorem isH_rng {h : Nat} (p : isH h) : 48 ≤ h ∧ h ≤ 63 := by rcases p with rfl | rfl <;> decide
section CHQ
variable {m : xm} {h : Nat} {G : hv}
theorem cH_count_ok (p : isH h) (c : CH m h G) {k : Int} (h1 : 0 ≤ k) (h2 : k < 4) : cH_count h k m = some (G 0 k, m) := by
  have a := alnH p
  unfold cH_count
  rw [cell_in h1 (by omega), bnd_some, ch_cnt c h1 h2]
theorem cH_isOne_in (p : isH h) (c : CH m h G) {t i : Int} (h1 : 0 ≤ t) (h2 : t < 4) (h3 : 0 ≤ i) (h4 : i < G 0 t) (h5 : G 0 t ≤ 6) : cH_isOne h t i m = some (1, m) := by
  have a := alnH p
  unfold cH_isOne
  rw [w32_id (x := t) (by omega) (by omega), w32_id (x := i) (by omega) (by omega), if_neg (by omega), if_neg (by omega), if_neg (by omega), cell_in h1 (by omega), bnd_some, ch_cnt c h1 h2, w32_id (by omega) (by omega), if_neg (by omega)]
theorem cH_isOne_out (p : isH h) (c : CH m h G) {t i : Int} (hn : ¬ (0 ≤ w32 t ∧ w32 t < 4 ∧ 0 ≤ w32 i ∧ w32 i < G 0 (w32 t))) (h5 : ∀ t, 0 ≤ t → t < 4 → 0 ≤ G 0 t ∧ G 0 t ≤ 6) : cH_isOne h t i m = some (0, m) := by
  have a := alnH p
  unfold cH_isOne
  split
  · rfl
  next g1 =>
  split
  · rfl
  next g2 =>
  split
  · rfl
  next g3 =>
  have g4 := h5 (w32 t) (by omega) (by omega)
  have e : cL_cell (h + 4) t m = some (G 0 (w32 t), m) := by
    unfold cL_cell ial
    rw [if_neg g1, if_neg (by omega), if_pos ⟨by omega, by omega⟩, ch_cnt c (by omega) (by omega)]
  rw [e, bnd_some, w32_id (x := G 0 (w32 t)) (by omega) (by omega), if_pos (by omega)]
theorem wf_cnt (w : wfG G) : ∀ t, 0 ≤ t → t < 4 → 0 ≤ G 0 t ∧ G 0 t ≤ 6 := by
  intro t h1 h2
  obtain ⟨⟨a1, a2, -⟩, a3, a4, a5, -⟩ := w
  unfold nL at a1 a2
  unfold nN at a3
  unfold nD at a4
  unfold nP at a5
  rcases in4 h1 h2 with rfl | rfl | rfl | rfl <;> omega
theorem cH_wardsOf_ok (p : isH h) (w : wfS G) (c : CH m h G) {l : Int} (h1 : 0 ≤ l) (h2 : l < nL G) : cH_wardsOf h l m = some (wx G l, m) := by
  have a := alnH p
  have := w.2.1
  unfold cH_wardsOf
  rw [cell_in h1 (by omega), bnd_some, (ch_lk c h1 h2).1, wx_in h1 h2]
theorem cH_jamWardOf_ok (p : isH h) (w : wfS G) (c : CH m h G) {l : Int} (h1 : 0 ≤ l) (h2 : l < nL G) : cH_jamWardOf h l m = some (G 3 l, m) := by
  have a := alnH p
  have := w.2.1
  unfold cH_jamWardOf
  rw [cell_in h1 (by omega), bnd_some, (ch_lk c h1 h2).2.1]
theorem cH_wardOf_ok (p : isH h) (w : wfS G) (c : CH m h G) {s l : Int} (hs : 0 ≤ s) (hs2 : s ≤ 2147483647) (h1 : 0 ≤ l) (h2 : l < nL G) : cH_wardOf h s l m = some (wd G s l, m) := by
  have a := alnH p
  have := w.2.1
  have g1 := pl_pos w l
  have g2 := wx_pos w l
  unfold cH_wardOf
  rw [cell_in h1 (by omega), bnd_some, cell_in h1 (by omega), bnd_some, (ch_lk c h1 h2).1, (ch_lk c h1 h2).2.2, ← wx_in h1 h2, w32_id (x := wx G l) (by omega) (by omega), w32_id (x := pl G l) (by omega) (by omega), if_neg (by omega), if_neg (by omega), if_neg (by omega), if_neg (by omega), idv_nn hs hs2 (by omega) (by omega), irm_nn (Int.ediv_nonneg hs (by omega)) (by have := Int.ediv_le_self (pl G l) hs; omega) (by omega) (by omega)]
  rfl
theorem cH_jamsOf_ok (w : wfS G) (c : CH m h G) {s : Int} (hs : 0 ≤ s) (hs2 : s ≤ 2147483647) : cH_jamsOf h s m = some (jm G s, m) := by
  have g := wy_pos w
  unfold cH_jamsOf
  rw [ch_wy c, if_neg (by omega), if_neg (by omega), idv_nn hs hs2 (by omega) (by omega)]
  rfl
theorem cH_isJammed_ok (w : wfS G) (c : CH m h G) {s l : Int} (hv : vs G s) (h1 : 0 ≤ l) (h2 : l < 8) : cH_isJammed h s l m = some (bt (jm G s) l, m) := by
  have g := vs_s w hv
  have g2 := vs_j w hv
  unfold cH_isJammed
  rw [cH_jamsOf_ok w c g.1 (by omega), bnd_some, bt_shr (by omega) (by omega) h1 h2]
  rcases bt_01 (jm G s) l with e | e
  · rw [e, if_neg (by decide)]
  · rw [e, if_pos rfl]
theorem cH_withWard_ok (p : isH h) (w : wfS G) (c : CH m h G) {s l v : Int} (hs : 0 ≤ s) (hs2 : s ≤ 2147483647) (h1 : 0 ≤ l) (h2 : l < nL G) : cH_withWard h s l v m = some (ud G s l v, m) := by
  have a := alnH p
  have := w.2.1
  unfold cH_withWard
  rw [cH_wardOf_ok p w c hs hs2 h1 h2, bnd_some, cell_in h1 (by omega), bnd_some, (ch_lk c h1 h2).2.2]
  rfl
theorem shl_mul0 : ∀ a : Nat, a < 626 → ∀ l : Nat, l < 4 → shl (a : Int) (l : Int) = (a : Int) * 2 ^ l := by decide +kernel
theorem shl_mul {a l : Int} (h1 : 0 ≤ a) (h2 : a < 626) (h3 : 0 ≤ l) (h4 : l < 4) : shl a l = a * 2 ^ l.toNat := by
  obtain ⟨x, hx, rfl⟩ := nat2 (n := 626) h1 h2
  obtain ⟨y, hy, rfl⟩ := nat2 (n := 4) h3 h4
  exact shl_mul0 x hx y hy
theorem cH_withJam_ok (w : wfS G) (c : CH m h G) {s l : Int} (hv : vs G s) (h1 : 0 ≤ l) (h2 : l < 4) : cH_withJam h s l m = some (sj G s l, m) := by
  have g := wy_pos w
  unfold cH_withJam
  rw [cH_isJammed_ok w c hv h1 (by omega), bnd_some, ch_wy c, shl_mul (by omega) (by omega) h1 h2]
  unfold sj
  rcases bt_01 (jm G s) l with e | e
  · rw [e, if_pos (show w32 0 = 0 from rfl), if_neg (by decide)]
  · rw [e, if_neg (by decide), if_pos rfl]
theorem cH_withoutJam_ok (w : wfS G) (c : CH m h G) {s l : Int} (hv : vs G s) (h1 : 0 ≤ l) (h2 : l < 4) : cH_withoutJam h s l m = some (cj G s l, m) := by
  have g := wy_pos w
  unfold cH_withoutJam
  rw [cH_isJammed_ok w c hv h1 (by omega), bnd_some, ch_wy c, shl_mul (by omega) (by omega) h1 h2]
  unfold cj
  rcases bt_01 (jm G s) l with e | e
  · rw [e, if_pos (show w32 0 = 0 from rfl), if_neg (by decide)]
  · rw [e, if_neg (by decide), if_pos rfl]
theorem cH_turnOf_in (p : isH h) (w : wfS G) (c : CH m h G) {n l : Int} (h1 : 0 ≤ n) (h2 : n < 6) (h3 : 0 ≤ l) (h4 : l < 4) : cH_turnOf h n l m = some (tT G n l, m) := by
  have a := alnH p
  unfold cH_turnOf cH_turnOf_24
  rw [w32_id (x := n) (by omega) (by omega), w32_id (x := l) (by omega) (by omega), if_neg (by omega), if_neg (by omega), if_neg (by omega), if_neg (by omega), xlt_eq, if_neg (by decide), cell_in (by omega) (by omega), bnd_some, show n * 4 + l = 4 * n + l by omega, ch_tT c h1 h2 h3 h4]
theorem cH_turnOf_out {n l : Int} (hn : ¬ (0 ≤ w32 n ∧ w32 n < 6)) : cH_turnOf h n l m = some (0, m) := by
  unfold cH_turnOf cH_turnOf_23 cH_turnOf_24
  by_cases g1 : w32 n < 0
  · rw [if_pos g1, xlt_eq, if_pos (by decide)]
  · rw [if_neg g1, if_pos (by omega), xlt_eq, if_pos (by decide)]
/-- a note can be played -/
def cp (G : hv) (s n : Int) : Prop := n = 6 ∨ (0 ≤ n ∧ n < nN G ∧ ban (nk G n) (jm G s) = 0)
theorem nk_rng (n : Int) : 0 ≤ nk G n ∧ nk G n < 16 := by
  unfold nk
  (repeat' split) <;> omega
theorem cH_canPlay_in (p : isH h) (w : wfG G) (c : CH m h G) {s n : Int} (hv : vs G s) (hc : cp G s n) : cH_canPlay h s n m = some (1, m) := by
  have a := alnH p
  have g := vs_s w.1 hv
  have g1 := w.2.1
  have g2 := nk_rng (G := G) n
  have g3 := vs_j w.1 hv
  unfold cH_canPlay
  rcases hc with rfl | ⟨h1, h2, h3⟩
  · rw [if_pos (by decide)]
  · rw [w32_id (x := n) (by omega) (by omega), if_neg (by omega), cH_isOne_in p c (by decide) (by decide) h1 h2 g1.2, bnd_some, if_neg (by decide), cell_in h1 (by omega), bnd_some, cH_jamsOf_ok w.1 c g.1 (by omega), bnd_some, ch_nk c h1 (by omega), if_pos h3]
theorem cH_canPlay_out (p : isH h) (w : wfG G) (c : CH m h G) {s n : Int} (hv : vs G s) (hc : ¬ cp G s (w32 n)) : cH_canPlay h s n m = some (0, m) := by
  have a := alnH p
  have g := vs_s w.1 hv
  have g1 := w.2.1
  unfold cH_canPlay
  have h6 : ¬ w32 n = 6 := fun z => hc (Or.inl z)
  rw [if_neg h6]
  by_cases hn : 0 ≤ w32 n ∧ w32 n < nN G
  · have e : cH_isOne h 1 n m = some (1, m) := by
      have e2 : cH_isOne h 1 n m = cH_isOne h 1 (w32 n) m := by
        unfold cH_isOne
        rw [w32_w]
      rw [e2]
      exact cH_isOne_in p c (by decide) (by decide) hn.1 hn.2 g1.2
    have e3 : cL_cell (h + 10) n m = some (nk G (w32 n), m) := by
      unfold cL_cell ial
      rw [if_neg (by omega), if_neg (by omega), if_pos ⟨by omega, by omega⟩, ch_nk c (by omega) (by omega)]
    rw [e, bnd_some, if_neg (by decide), e3, bnd_some, cH_jamsOf_ok w.1 c g.1 (by omega), bnd_some, if_neg (fun z => hc (Or.inr ⟨hn.1, hn.2, z⟩))]
  · rw [cH_isOne_out p c (t := 1) (fun z => hn ⟨z.2.2.1, z.2.2.2⟩) (wf_cnt w), bnd_some, if_pos (by decide)]
theorem cH_after_ok (p : isH h) (w : wfG G) (c : CH m h G) {s n : Int} (hv : vs G s) (h1 : 0 ≤ n) (h2 : n < 6) : ∀ (f k : Nat), k ≤ (nL G).toNat → (nL G).toNat - k < f → cH_after_5 h f s n (afl G n k s) (k : Int) m = some (af G n s, m) := by
  have hw := w.1
  have hL1 := hw.1
  have hL2 := hw.2.1
  have hs := vs_s hw hv
  intro f
  induction f with
  | zero => intro k _ hf; omega
  | succ f ih =>
    intro k hk hf
    have hvk := vs_afl hw (n := n) hv k
    have hsk := vs_s hw hvk
    unfold cH_after_5
    rw [cH_count_ok p c (by decide) (by decide), bnd_some, w32_id (x := (k : Int)) (by omega) (by omega), w32_id (x := G 0 0) (by unfold nL at *; omega) (by unfold nL at *; omega)]
    by_cases he : nL G ≤ (k : Int)
    · rw [if_pos (by exact he)]
      have : k = (nL G).toNat := by omega
      subst this
      rfl
    · rw [if_neg (by exact he)]
      have hT := w.2.2.2.2.2.2.1 n (k : Int) h1 h2 (by omega) (by omega)
      have hx := wx_pos hw (k : Int)
      have hd := wd_rng hw s (k : Int)
      rw [cH_turnOf_in p hw c h1 h2 (by omega) (by omega), bnd_some, cH_wardsOf_ok p hw c (by omega) (by omega), bnd_some, w32_id (x := tT G n k) (by omega) (by omega), w32_id (x := wx G k) (by omega) (by omega)]
      have hnext : ∀ (cur : Int) (m : xm), cH_after_90 h (fun v1 v2 v3 v4 m => cH_after_5 h f v1 v2 v3 v4 m) s n cur (k : Int) m = cH_after_5 h f s n cur ((k + 1 : Nat) : Int) m := fun _ _ => rfl
      by_cases ht : tT G n k ≤ 0
      · rw [if_pos ht, hnext]
        have e : afl G n (k + 1) s = afl G n k s := by
          show tn G n k (afl G n k s) = _
          unfold tn
          rw [if_neg (by omega)]
        rw [← e]
        exact ih (k + 1) (by omega) (by omega)
      · have r1 := Int.emod_nonneg (wd G s k + tT G n k) (show wx G k ≠ 0 by omega)
        have r2 := Int.emod_lt_of_pos (wd G s k + tT G n k) (show 0 < wx G k by omega)
        have hwd : wd G (afl G n k s) k = wd G s k := afl_wd hw k k (by omega) (by omega) (by omega)
        have hJ := w.2.2.2.2.2.1 (k : Int) (by omega) (by omega)
        have hg : G 1 (k : Int) = wx G k := (wx_in (by omega) (by omega)).symm
        have hu := vs_ud hw hvk (l := (k : Int)) (by omega) (by omega) r1 r2
        have hus := vs_s hw hu
        rw [if_neg ht, if_neg (by omega), cH_wardOf_ok p hw c hs.1 (by omega) (by omega) (by omega), bnd_some, if_neg (by omega), irm_nn (by omega) (by omega) (by omega) (by omega), xlt_eq, cH_withWard_ok p hw c hsk.1 (by omega) (by omega) (by omega), bnd_some, cH_jamWardOf_ok p hw c (by omega) (by omega), bnd_some, w32_id (x := (wd G s k + tT G n k) % wx G k) (by omega) (by omega), w32_id (x := G 3 k) (by omega) (by omega)]
        have h89 : ∀ (cur : Int) (m : xm), cH_after_89 h (fun v1 v2 v3 v4 m => cH_after_5 h f v1 v2 v3 v4 m) s n (k : Int) cur m = cH_after_5 h f s n cur ((k + 1 : Nat) : Int) m := fun _ _ => rfl
        have e : afl G n (k + 1) s = if (wd G s k + tT G n k) % wx G k = G 3 k then sj G (ud G (afl G n k s) k ((wd G s k + tT G n k) % wx G k)) k else ud G (afl G n k s) k ((wd G s k + tT G n k) % wx G k) := by
          show tn G n k (afl G n k s) = _
          unfold tn
          rw [if_pos ⟨by omega, by omega⟩, hwd]
        by_cases hj : (wd G s k + tT G n k) % wx G k = G 3 k
        · rw [if_pos hj] at e
          rw [if_pos hj, cH_withJam_ok hw c hu (by omega) (by omega), bnd_some, h89, ← e]
          exact ih (k + 1) (by omega) (by omega)
        · rw [if_neg hj] at e
          rw [if_neg hj, h89, ← e]
          exact ih (k + 1) (by omega) (by omega)
theorem cH_after_in (p : isH h) (w : wfG G) (c : CH m h G) {s n : Int} (hv : vs G s) (h1 : 0 ≤ n) (h2 : n < 6) : cH_after h s n m = some (af G n s, m) := by
  have := w.1.2.1
  exact cH_after_ok p w c hv h1 h2 xLF 0 (by omega) (by rw [xLF_eq]; omega)
/-- a rest turns nothing -/
theorem cH_after_rest (p : isH h) (w : wfG G) (c : CH m h G) {s : Int} : cH_after h s 6 m = some (s, m) := by
  have hL1 := w.1.1
  have hL2 := w.1.2.1
  have key : ∀ (f k : Nat), (k : Int) ≤ nL G → (nL G).toNat - k < f → cH_after_5 h f s 6 s (k : Int) m = some (s, m) := by
    intro f
    induction f with
    | zero => intro k _ hf; omega
    | succ f ih =>
      intro k hk hf
      unfold cH_after_5
      rw [cH_count_ok p c (by decide) (by decide), bnd_some, w32_id (x := (k : Int)) (by omega) (by omega), w32_id (x := G 0 0) (by unfold nL at *; omega) (by unfold nL at *; omega)]
      by_cases he : nL G ≤ (k : Int)
      · rw [if_pos (by exact he)]
      · rw [if_neg (by exact he), cH_turnOf_out (by decide), bnd_some, cH_wardsOf_ok p w.1 c (by omega) (by omega), bnd_some, if_pos (by decide)]
        exact ih (k + 1) (by omega) (by omega)
  exact key xLF 0 (by omega) (by rw [xLF_eq]; omega)
end CHQ
