/-! slips -/
def sbN (N : Int → Int) (a x k : Int) : Int := if k = a then x else N k
/-- the state in which a piece ends, or -1 -/
def eF (G : hv) (N : Int → Int) (len : Int) : Nat → Int → Int
  | 0, s => s
  | r + 1, s => if cpb G s (N (len - ((r + 1 : Nat) : Int))) = true then eF G N len r (ag G (N (len - ((r + 1 : Nat) : Int))) s) else -1
theorem eF_vs {G : hv} (w : wfG G) {N : Int → Int} {len : Int} : ∀ (r : Nat) {s : Int}, vs G s → eF G N len r s = -1 ∨ vs G (eF G N len r s)
  | 0, _, h => Or.inr h
  | r + 1, s, h => by
    unfold eF
    split
    · exact eF_vs w r (vs_ag w.1 h)
    · exact Or.inl rfl
theorem eF_bad {G : hv} {N : Int → Int} {len a : Int} (hb : ¬ ntk G (N a)) : ∀ (r : Nat) {s : Int}, len - (r : Int) ≤ a → a < len → eF G N len r s = -1
  | 0, _, h1, h2 => by omega
  | r + 1, s, h1, h2 => by
    unfold eF
    by_cases he : len - ((r + 1 : Nat) : Int) = a
    · rw [he, if_neg (fun z => hb (cp_ntk (cpb_iff.mp z)))]
    · split
      · exact eF_bad hb r (by omega) h2
      · rfl
theorem endOf_loop {m : xm} {G : hv} {h : Nat} (p : isH h) (w : wfG G) (ch : CH m h G) {N : Int → Int} {len a x : Int} (h0 : 0 ≤ len) (h20 : len ≤ 20) (hx : rg x) (ha : rg a) (hN : ∀ i, 0 ≤ i → i < len → ntk G (N i)) (h16 : ld m 16 1 = len) (h17 : ∀ i, 0 ≤ i → i < len → ld m 17 i = N i) : ∀ (r f : Nat) {s : Int}, (r : Int) ≤ len → r < f → vs G s → cP_endOf_6 h f a x s (len - (r : Int)) m = some (eF G (sbN N a x) len r s, m) := by
  have gN := w.2.1
  intro r
  induction r with
  | zero =>
    intro f s hr hf hv
    obtain ⟨f, rfl⟩ : ∃ f', f = f' + 1 := ⟨f - 1, by omega⟩
    rw [cP_endOf_6, h16, w32_id (x := len - ((0 : Nat) : Int)) (by omega) (by omega), if_pos (by omega)]
    rfl
  | succ r ih =>
    intro f s hr hf hv
    obtain ⟨f, rfl⟩ : ∃ f', f = f' + 1 := ⟨f - 1, by omega⟩
    obtain ⟨k, hk⟩ : ∃ k, len - ((r + 1 : Nat) : Int) = k := ⟨_, rfl⟩
    have hnk := hN k (by omega) (by omega)
    obtain ⟨y, hy⟩ : ∃ y, sbN N a x k = y := ⟨_, rfl⟩
    have ry : rg y := by
      rw [← hy]; unfold sbN
      split
      · exact hx
      · rcases hnk with z | z <;> unfold rg <;> omega
    have step : cP_endOf_32 h (fun v3 v4 v5 v6 m => cP_endOf_6 h f v3 v4 v5 v6 m) a x s k y m = some (eF G (sbN N a x) len (r + 1) s, m) := by
      unfold cP_endOf_32 eF
      rw [xlt_eq, hk, hy]
      by_cases q : cp G s y
      · rw [cH_canPlay_in p w ch hv q, bnd_some, if_neg (by decide), cH_after_ag p w ch hv (cp_ntk q), bnd_some, if_pos (cpb_iff.mpr q), show k + 1 = len - (r : Int) by omega]
        exact ih f (by omega) (by omega) (vs_ag w.1 hv)
      · rw [cH_canPlay_out p w ch hv (by rw [w32_rg ry]; exact q), bnd_some, if_pos (by decide), if_neg (fun z => q (cpb_iff.mp z))]
    rw [cP_endOf_6, hk, h16, w32_id (x := k) (by omega) (by omega), if_neg (by omega), w32_rg ha]
    by_cases e : k = a
    · rw [if_pos e, ← step, ← hy]
      unfold sbN
      rw [if_pos e]
    · rw [if_neg e, cP_noteAt_ok (by omega) (by omega), bnd_some, h17 k (by omega) (by omega), ← step, ← hy]
      unfold sbN
      rw [if_neg e]
/-- ends with just these doors -/
def ew (G : hv) (N : Int → Int) (len s g a x : Int) : Bool := decide (eF G (sbN N a x) len len.toNat s ≠ -1) && decide (od G (eF G (sbN N a x) len len.toNat s) = g)
theorem endsWith_ok {m : xm} {G : hv} {h : Nat} (p : isH h) (w : wfG G) (hD : wfD G) (hh : hl m 12 = h) (ch : CH m h G) (M : CM m h G) {N : Int → Int} {len a x g : Int} (h0 : 0 ≤ len) (h20 : len ≤ 20) (hx : rg x) (ha : rg a) (hg : rg g) (hN : ∀ i, 0 ≤ i → i < len → ntk G (N i)) (h16 : ld m 16 1 = len) (h17 : ∀ i, 0 ≤ i → i < len → ld m 17 i = N i) (hv : vs G (ld m 22 0)) : ∃ m', cL_endsWith a x g m = some (if ew G N len (ld m 22 0) g a x = true then 1 else 0, m') ∧ fo h m m' ∧ CM m' h G := by
  have e := endOf_loop p w ch h0 h20 hx ha hN h16 h17 len.toNat xLF (by omega) (by rw [xLF_eq]; omega) hv
  rw [show len - (len.toNat : Int) = 0 by omega] at e
  unfold cL_endsWith cP_endOf ew
  rw [cY_state_ok, bnd_some, hh, e, bnd_some]
  rcases eF_vs w (N := sbN N a x) (len := len) len.toNat hv with z | z
  · rw [z, if_pos (by decide)]
    exact ⟨m, rfl, fo_refl, M⟩
  · have s := vs_s w.1 z
    obtain ⟨m1, b1, b2, b3⟩ := cH_openDoors_ok p w hD z ch M
    have o := od_rng w hD (eF G (sbN N a x) len len.toNat (ld m 22 0))
    rw [w32_id (x := eF G (sbN N a x) len len.toNat (ld m 22 0)) (by omega) (by omega), if_neg (by omega), hh, b1, bnd_some, w32_id (x := od G _) (by omega) (by omega), w32_rg hg]
    refine ⟨m1, ?_, b2, b3⟩
    have ne : (eF G (sbN N a x) len len.toNat (ld m 22 0) ≠ -1) = True := eq_true (by omega)
    rw [decide_eq_true (p := eF G (sbN N a x) len len.toNat (ld m 22 0) ≠ -1) (by omega), Bool.true_and]
    by_cases q : od G (eF G (sbN N a x) len len.toNat (ld m 22 0)) = g
    · rw [if_pos q, if_pos (decide_eq_true q)]
    · rw [if_neg q, if_neg (by simpa using q)]
/-- the slips counted, the first of them -/
def sla (b : Bool) (k x : Int) (t : Int × Int × Int) : Int × Int × Int := if b = true then (t.1 + 1, if t.1 = 0 then k else t.2.1, if t.1 = 0 then x else t.2.2) else t
def inC (H : Int → Bool) (k : Int) : Nat → Int × Int × Int → Int × Int × Int
  | 0, t => t
  | r + 1, t => inC H k r (sla (H (7 - ((r + 1 : Nat) : Int))) k (7 - ((r + 1 : Nat) : Int)) t)
def cnd (n : Int) (r : Nat) : Int := if r = 0 then 6 else n - (r : Int)
def inR (n : Int) (H : Int → Bool) (k : Int) : Nat → Int × Int × Int → Int × Int × Int
  | 0, t => t
  | r + 1, t => inR n H k r (sla (H (cnd n r)) k (cnd n r) t)
theorem inC_a {H : Int → Bool} {k n : Int} (hH : ∀ x, n ≤ x → x < 6 → H x = false) : ∀ (r : Nat) {t : Int × Int × Int}, n ≤ 6 - (r : Int) → inC H k (r + 1) t = sla (H 6) k 6 t
  | 0, _, _ => rfl
  | r + 1, t, h => by
    rw [inC, hH _ (by omega) (by omega)]
    exact inC_a hH r (by omega)
theorem inC_b {H : Int → Bool} {k : Int} {n : Nat} (hn : n ≤ 6) (hH : ∀ x, (n : Int) ≤ x → x < 6 → H x = false) : ∀ (q : Nat) {t : Int × Int × Int}, q ≤ n → inC H k (q + (6 - n) + 1) t = inR n H k (q + 1) t
  | 0, t, _ => by
    rw [Nat.zero_add, inC_a hH (6 - n) (by omega)]
    rfl
  | q + 1, t, h => by
    have e : (7 : Int) - ((q + 1 + (6 - n) + 1 : Nat) : Int) = cnd n (q + 1) := by
      unfold cnd
      rw [if_neg (by omega)]
      omega
    rw [inC, inR, e, show q + 1 + (6 - n) = q + (6 - n) + 1 by omega]
    exact inC_b hn hH q (by omega)
theorem inC_inR {H : Int → Bool} {k n : Int} (h0 : 0 ≤ n) (h6 : n ≤ 6) (hH : ∀ x, n ≤ x → x < 6 → H x = false) {t : Int × Int × Int} : inC H k 7 t = inR n H k (n.toNat + 1) t := by
  obtain ⟨q, hq, rfl⟩ := nat2 (n := 7) h0 (by omega)
  have := inC_b (H := H) (k := k) (n := q) (by omega) hH q (t := t) (Nat.le_refl _)
  rw [show q + (6 - q) + 1 = 7 by omega] at this
  exact this
def ouC (H : Int → Int → Bool) (len : Int) : Nat → Int × Int × Int → Int × Int × Int
  | 0, t => t
  | r + 1, t => ouC H len r (inC (H (len - ((r + 1 : Nat) : Int))) (len - ((r + 1 : Nat) : Int)) 7 t)
def LC (m : xm) (t : Int × Int × Int) : Prop := 0 ≤ t.1 ∧ (t.1 = 0 → ld m 0 15 = 0) ∧ (t.1 ≠ 0 → ld m 0 15 = 1 ∧ ld m 45 0 = t.2.1 ∧ ld m 45 1 = t.2.2)
def fS (h : Nat) (m m' : xm) : Prop := ∀ a j, ¬ (a = h + 1 ∧ j = 3) → a ≠ h + 3 → a ≠ h + 14 → ¬ (a = 0 ∧ j = 15) → a ≠ 45 → m' a j = m a j
theorem keepFirst_ok {m : xm} {t : Int × Int × Int} {k x : Int} (L : LC m t) (hk : rg k) (hx : rg x) : ∃ m', cL_keepFirstSlip k x m = some (0, m') ∧ LC m' (sla true k x t) ∧ ∀ a j, ¬ (a = 0 ∧ j = 15) → a ≠ 45 → m' a j = m a j := by
  obtain ⟨l1, l2, l3⟩ := L
  unfold cL_keepFirstSlip
  by_cases c : t.1 = 0
  · rw [if_pos (l2 c), setCell_in (by decide) (by rw [al45]; decide), bnd_some, setCell_in (by decide) (by rw [al45]; decide), bnd_some, stf_eq]
    refine ⟨_, rfl, ?_, fun a j z1 z2 => by rw [st_at (by omega), st_at (by omega), st_at (by omega)]⟩
    unfold sla LC
    rw [if_pos rfl]
    dsimp only
    refine ⟨by omega, fun z => by omega, fun _ => ⟨by rw [ld_st_eq]; rfl, ?_, ?_⟩⟩
    · rw [if_pos c, ld_st_nc (by decide), ld_st_ne (by decide), ld_st_eq, w32_rg hk]
    · rw [if_pos c, ld_st_nc (by decide), ld_st_eq, w32_rg hx]
  · obtain ⟨q1, q2, q3⟩ := l3 c
    rw [if_neg (by omega)]
    refine ⟨m, rfl, ?_, fun _ _ _ _ => rfl⟩
    unfold sla LC
    rw [if_pos rfl]
    dsimp only
    refine ⟨by omega, fun z => by omega, fun _ => ⟨q1, by rw [if_neg c]; exact q2, by rw [if_neg c]; exact q3⟩⟩
theorem LC_cg {m m' : xm} {t : Int × Int × Int} (L : LC m t) (e : m' 0 = m 0) (e2 : m' 45 = m 45) : LC m' t := by
  unfold LC
  rw [ld_cg e, ld_cg e2, ld_cg e2]
  exact L
/-- what the program's loops keep -/
def SX (m : xm) (h : Nat) (G : hv) (N : Int → Int) (len s : Int) : Prop := hl m 12 = h ∧ CH m h G ∧ ld m 22 0 = s ∧ ld m 16 1 = len ∧ ∀ i, 0 ≤ i → i < len → ld m 17 i = N i
theorem SX_fS {m m' : xm} {h : Nat} {G : hv} {N : Int → Int} {len s : Int} (p : isH h) (X : SX m h G N len s) (f : fS h m m') : SX m' h G N len s := by
  have pr := isH_rng p
  obtain ⟨x1, x2, x3, x4, x5⟩ := X
  refine ⟨by rw [hl_cg (f 0 12 (by omega) (by omega) (by omega) (by decide) (by decide)), x1], CH_cg x2 (fun a k z => ldq (f a k ?_ ?_ ?_ ?_ ?_)), by rw [ldq (f 22 0 (by omega) (by omega) (by omega) (by decide) (by decide)), x3], by rw [ldq (f 16 1 (by omega) (by omega) (by omega) (by decide) (by decide)), x4], fun i g1 g2 => by rw [ldq (f 17 i (by omega) (by omega) (by omega) (by omega) (by decide)), x5 i g1 g2]⟩ <;> rcases z with rfl | ⟨z1, z2⟩ | ⟨rfl, z⟩ <;> omega
/-- a slip at k with x -/
def hit (G : hv) (N : Int → Int) (len s g k x : Int) : Bool := decide (x ≠ N k) && ew G N len s g k x
theorem slip_in {G : hv} {h : Nat} (p : isH h) (w : wfG G) (hD : wfD G) {N : Int → Int} {len g s k : Int} (h0 : 0 ≤ len) (h20 : len ≤ 20) (hg : rg g) (hN : ∀ i, 0 ≤ i → i < len → ntk G (N i)) (hv : vs G s) (hk0 : 0 ≤ k) (hk1 : k < len) {K : Int → Int → Int → xm → xr} : ∀ (r f : Nat) {m : xm} {t : Int × Int × Int}, r ≤ 7 → r < f → SX m h G N len s → CM m h G → LC m t → ∃ m', cL_slip_58 K f g t.1 k (7 - (r : Int)) m = K g (inC (hit G N len s g k) k r t).1 (k + 1) m' ∧ fS h m m' ∧ CM m' h G ∧ LC m' (inC (hit G N len s g k) k r t) := by
  have pr := isH_rng p
  have gN := w.2.1
  intro r
  induction r with
  | zero =>
    intro f m t hr hf X M L
    obtain ⟨f, rfl⟩ : ∃ f', f = f' + 1 := ⟨f - 1, by omega⟩
    rw [cL_slip_58, if_pos (by decide)]
    exact ⟨m, rfl, fun _ _ _ _ _ _ _ => rfl, M, L⟩
  | succ r ih =>
    intro f m t hr hf X M L
    obtain ⟨f, rfl⟩ : ∃ f', f = f' + 1 := ⟨f - 1, by omega⟩
    have X0 := X
    obtain ⟨x1, x2, x3, x4, x5⟩ := X
    obtain ⟨x, hx⟩ : ∃ x, (7 : Int) - ((r + 1 : Nat) : Int) = x := ⟨_, rfl⟩
    have hnk := hN k (by omega) (by omega)
    have hnr : rg (N k) := by rcases hnk with z | z <;> unfold rg <;> omega
    have go : ∀ {m1 t1}, fS h m m1 → CM m1 h G → LC m1 t1 → ∃ m', cL_slip_99 K (fun v1 v2 v3 v4 m => cL_slip_58 K f v1 v2 v3 v4 m) g t1.1 k x m1 = K g (inC (hit G N len s g k) k r t1).1 (k + 1) m' ∧ fS h m m' ∧ CM m' h G ∧ LC m' (inC (hit G N len s g k) k r t1) := by
      intro m1 t1 f1 M1 L1
      obtain ⟨m2, b1, b2, b3, b4⟩ := ih f (m := m1) (t := t1) (by omega) (by omega) (SX_fS p X0 f1) M1 L1
      refine ⟨m2, ?_, fun a j z1 z2 z3 z4 z5 => by rw [b2 a j z1 z2 z3 z4 z5, f1 a j z1 z2 z3 z4 z5], b3, b4⟩
      unfold cL_slip_99
      rw [show x + 1 = 7 - (r : Int) by omega]
      exact b1
    rw [cL_slip_58, inC, hx, w32_id (x := x) (by omega) (by omega), if_neg (by omega), cP_noteAt_ok (by omega) (by omega), bnd_some, x5 k (by omega) (by omega), w32_rg hnr]
    by_cases q : x = N k
    · have e : hit G N len s g k x = false := by
        unfold hit
        simp [q]
      rw [if_pos q, e]
      exact go (t1 := t) (fun _ _ _ _ _ _ _ => rfl) M L
    · obtain ⟨m1, b1, b2, b3⟩ := endsWith_ok p w hD x1 x2 M h0 h20 (x := x) (a := k) ⟨by omega, by omega⟩ ⟨by omega, by omega⟩ hg hN x4 x5 (by rw [x3]; exact hv)
      have e : hit G N len s g k x = ew G N len s g k x := by
        unfold hit
        simp [q]
      have f1 : fS h m m1 := fun a j z1 z2 z3 z4 z5 => b2 a j z1 z2 z3
      have L1 : LC m1 t := LC_cg L (fo_out p b2 (by decide)) (fo_out p b2 (by decide))
      rw [if_neg q, b1, bnd_some, x3, e]
      by_cases c : ew G N len s g k x = true
      · obtain ⟨m2, d1, d2, d3⟩ := keepFirst_ok (k := k) (x := x) L1 ⟨by omega, by omega⟩ ⟨by omega, by omega⟩
        rw [if_pos c, if_neg (by decide), d1, bnd_some, c]
        have e1 : t.1 + 1 = (sla true k x t).1 := rfl
        rw [e1]
        exact go (fun a j z1 z2 z3 z4 z5 => by rw [d3 a j z4 z5, f1 a j z1 z2 z3 z4 z5]) (CM_cg b3 (fun j => d3 _ j (by omega) (by omega))) d2
      · rw [if_neg c, if_pos (by decide), Bool.eq_false_iff.mpr c]
        exact go (t1 := t) f1 b3 L1
theorem slip_out {G : hv} {h : Nat} (p : isH h) (w : wfG G) (hD : wfD G) {N : Int → Int} {len g s : Int} (h0 : 0 ≤ len) (h20 : len ≤ 20) (hg : rg g) (hN : ∀ i, 0 ≤ i → i < len → ntk G (N i)) (hv : vs G s) : ∀ (r f : Nat) {m : xm} {t : Int × Int × Int}, (r : Int) ≤ len → r < f → SX m h G N len s → CM m h G → LC m t → ∃ m', cL_slip_44 f g t.1 (len - (r : Int)) m = some ((ouC (hit G N len s g) len r t).1, m') ∧ fS h m m' ∧ CM m' h G ∧ LC m' (ouC (hit G N len s g) len r t) := by
  intro r
  induction r with
  | zero =>
    intro f m t hr hf X M L
    obtain ⟨f, rfl⟩ : ∃ f', f = f' + 1 := ⟨f - 1, by omega⟩
    rw [cL_slip_44]
    unfold cP_length
    rw [bnd_some, w32_ld, X.2.2.2.1, w32_id (x := len - ((0 : Nat) : Int)) (by omega) (by omega), if_pos (by omega)]
    exact ⟨m, rfl, fun _ _ _ _ _ _ _ => rfl, M, L⟩
  | succ r ih =>
    intro f m t hr hf X M L
    obtain ⟨f, rfl⟩ : ∃ f', f = f' + 1 := ⟨f - 1, by omega⟩
    obtain ⟨k, hk⟩ : ∃ k, len - ((r + 1 : Nat) : Int) = k := ⟨_, rfl⟩
    obtain ⟨m1, b1, b2, b3, b4⟩ := slip_in p w hD (k := k) h0 h20 hg hN hv (by omega) (by omega) (K := fun v1 v2 v3 m => cL_slip_44 f v1 v2 v3 m) 7 xLF (m := m) (t := t) (by omega) (by rw [xLF_eq]; omega) X M L
    obtain ⟨m2, d1, d2, d3, d4⟩ := ih f (m := m1) (t := inC (hit G N len s g k) k 7 t) (by omega) (by omega) (SX_fS p X b2) b3 b4
    rw [cL_slip_44, ouC, hk]
    unfold cP_length
    rw [bnd_some, w32_ld, X.2.2.2.1, w32_id (x := k) (by omega) (by omega), if_neg (by omega)]
    refine ⟨m2, ?_, fun a j z1 z2 z3 z4 z5 => by rw [d2 a j z1 z2 z3 z4 z5, b2 a j z1 z2 z3 z4 z5], d3, d4⟩
    refine Eq.trans b1 ?_
    rw [show k + 1 = len - (r : Int) by omega]
    exact d1
