/-! slips in the reference; slip -/
def fV (m m' : xm) : Prop := ∀ a j, a ≠ 110 → a ≠ 111 → a ≠ 140 → ¬ (a = 78 ∧ j = 90) → m' a j = m a j
theorem isSlip_86 {x : Int} {m : xm} (hx : x = 0 ∨ x = 1) : ∃ m', r_isSlip_86 x m = some (x, m') ∧ (∀ i, 0 ≤ i → i < 127 → ld m' 110 i = ld m 111 i) ∧ ∀ a i, a ≠ 110 → m' a i = m a i := by
  obtain ⟨m1, b1, b2, b3⟩ := r_takesBack_ok m
  unfold r_isSlip_86
  rw [xlt_eq, b1, bnd_some]
  unfold xrb
  rw [if_pos hx]
  exact ⟨m1, rfl, b2, b3⟩
theorem isSlip_loop {G : hv} (w : wfG G) (hD : wfD G) {N : Int → Int} {len a x g : Int} (h0 : 0 ≤ len) (h20 : len ≤ 20) (hx : ntk G x) (ha : rg a) (hg : rg g) (hN : ∀ i, 0 ≤ i → i < len → ntk G (N i)) : ∀ (r f : Nat) {m : xm} {s : Int}, (r : Int) ≤ len → r + 1 < f → RH m G → NR m G s → vs G s → ld m 78 46 = len → (∀ i, 0 ≤ i → i < len → ld m 112 i = N i) → ∃ m', r_isSlip_10 f a x g 1 (len - (r : Int)) m = some (if eF G (sbN N a x) len r s ≠ -1 ∧ od G (eF G (sbN N a x) len r s) = g then 1 else 0, m') ∧ (∀ i, 0 ≤ i → i < 127 → ld m' 110 i = ld m 111 i) ∧ ∀ a j, a ≠ 110 → a ≠ 140 → ¬ (a = 78 ∧ j = 90) → m' a j = m a j := by
  have gN := w.2.1
  intro r
  induction r with
  | zero =>
    intro f m s hr hf H hn hv h46 h112
    obtain ⟨f, rfl⟩ : ∃ f', f = f' + 1 := ⟨f - 1, by omega⟩
    obtain ⟨m1, b1, b2⟩ := r_openNow_ok w hD hv H hn
    have o := od_rng w hD s
    have vss := vs_s w.1 hv
    rw [r_isSlip_10, h46, w32_id (x := len - ((0 : Nat) : Int)) (by omega) (by omega), if_pos (by omega)]
    unfold r_isSlip_68 eF
    rw [if_neg (by decide), b1, bnd_some, w32_id (x := od G s) (by omega) (by omega), w32_rg hg]
    by_cases q : od G s = g
    · obtain ⟨m2, d1, d2, d3⟩ := isSlip_86 (x := 1) (m := m1) (Or.inr rfl)
      rw [if_pos q, if_pos (show s ≠ -1 ∧ od G s = g from ⟨by omega, q⟩)]
      exact ⟨m2, d1, fun i z1 z2 => by rw [d2 i z1 z2, fq_ld b2 (by omega) (by decide)], fun a j z1 z2 z3 => by rw [d3 a j z1, b2 a j z3 z2]⟩
    · obtain ⟨m2, d1, d2, d3⟩ := isSlip_86 (x := 0) (m := m1) (Or.inl rfl)
      rw [if_neg q, if_neg (show ¬ (s ≠ -1 ∧ od G s = g) from fun z => q z.2)]
      exact ⟨m2, d1, fun i z1 z2 => by rw [d2 i z1 z2, fq_ld b2 (by omega) (by decide)], fun a j z1 z2 z3 => by rw [d3 a j z1, b2 a j z3 z2]⟩
  | succ r ih =>
    intro f m s hr hf H hn hv h46 h112
    obtain ⟨f, rfl⟩ : ∃ f', f = f' + 1 := ⟨f - 1, by omega⟩
    obtain ⟨k, hk⟩ : ∃ k, len - ((r + 1 : Nat) : Int) = k := ⟨_, rfl⟩
    have hnk := hN k (by omega) (by omega)
    obtain ⟨y, hy⟩ : ∃ y, sbN N a x k = y := ⟨_, rfl⟩
    have ny : ntk G y := by
      rw [← hy]; unfold sbN
      split
      · exact hx
      · exact hnk
    have rc := r_canPlay_ok w H hv hn (n := y) ny
    have step : ∃ m', r_isSlip_41 (fun v1 v2 v3 v4 v5 m => r_isSlip_10 f v1 v2 v3 v4 v5 m) a x g k y m = some (if eF G (sbN N a x) len (r + 1) s ≠ -1 ∧ od G (eF G (sbN N a x) len (r + 1) s) = g then 1 else 0, m') ∧ (∀ i, 0 ≤ i → i < 127 → ld m' 110 i = ld m 111 i) ∧ ∀ a j, a ≠ 110 → a ≠ 140 → ¬ (a = 78 ∧ j = 90) → m' a j = m a j := by
      unfold r_isSlip_41 r_isSlip_62
      rw [xlt_eq]
      by_cases q : cp G s y
      · have e : eF G (sbN N a x) len (r + 1) s = eF G (sbN N a x) len r (ag G y s) := by
          rw [eF, hk, hy, if_pos (cpb_iff.mpr q)]
        obtain ⟨m2, d1, d2, d3⟩ := r_turns_ok w H hv hn ny
        have H2 := fn_RH d3 H
        obtain ⟨m3, g1, g2, g3⟩ := ih f (m := m2) (s := ag G y s) (by omega) (by omega) H2 d2 (vs_ag w.1 hv) (by rw [ldq (d3 78 46 (by decide))]; exact h46) (fun i z1 z2 => by rw [ldq (d3 112 i (by omega))]; exact h112 i z1 z2)
        rw [rc.1 q, bnd_some, if_neg (by decide), d1, bnd_some, e, show k + 1 = len - (r : Int) by omega]
        exact ⟨m3, g1, fun i z1 z2 => by rw [g2 i z1 z2, ldq (d3 111 i (by omega))], fun a j z1 z2 z3 => by rw [g3 a j z1 z2 z3, d3 a j (by omega)]⟩
      · have e : eF G (sbN N a x) len (r + 1) s = -1 := by
          rw [eF, hk, hy, if_neg (fun z => q (cpb_iff.mp z))]
        obtain ⟨m2, d1, d2, d3⟩ := isSlip_86 (x := 0) (m := m) (Or.inl rfl)
        obtain ⟨f, rfl⟩ : ∃ f', f = f' + 1 := ⟨f - 1, by omega⟩
        have e68 : r_isSlip_68 g 0 m = some (0, m2) := by
          unfold r_isSlip_68
          rw [if_pos (by decide)]
          exact d1
        have el : r_isSlip_10 (f + 1) a x g 0 (k + 1) m = some (0, m2) := by
          rw [r_isSlip_10, e68, if_pos (show w32 0 = 0 by decide)]
          split <;> rfl
        rw [rc.2 q, bnd_some, if_pos (by decide), e, if_neg (show ¬ ((-1 : Int) ≠ -1 ∧ od G (-1) = g) from fun z => z.1 rfl)]
        exact ⟨m2, el, d2, fun a j z1 _ _ => d3 a j z1⟩
    rw [r_isSlip_10, hk, h46, w32_id (x := k) (by omega) (by omega), if_neg (by omega), if_neg (by decide), w32_rg ha]
    obtain ⟨m3, s1, s2⟩ := step
    refine ⟨m3, ?_, s2⟩
    by_cases e : k = a
    · rw [if_pos e, ← s1, ← hy]
      unfold sbN
      rw [if_pos e]
    · rw [if_neg e, ial_in (by omega) (by rw [al112]; omega), h112 k (by omega) (by omega), ← s1, ← hy]
      unfold sbN
      rw [if_neg e]
/-- what the reference's loops keep -/
def RX (m : xm) (G : hv) (N : Int → Int) (len : Int) (n0 : Int → Int) : Prop := RH m G ∧ ld m 78 46 = len ∧ (∀ i, 0 ≤ i → i < len → ld m 112 i = N i) ∧ ∀ i, 0 ≤ i → i < 127 → ld m 110 i = n0 i
theorem r_isSlip_ok {m : xm} {G : hv} (w : wfG G) (hD : wfD G) {N n0 : Int → Int} {len a x g s : Int} (h0 : 0 ≤ len) (h20 : len ≤ 20) (hx : ntk G x) (ha : rg a) (hg : rg g) (hN : ∀ i, 0 ≤ i → i < len → ntk G (N i)) (X : RX m G N len n0) (hn : NR m G s) (hv : vs G s) : ∃ m', r_isSlip a x g m = some (if ew G N len s g a x = true then 1 else 0, m') ∧ RX m' G N len n0 ∧ fV m m' := by
  obtain ⟨m1, b1, b2, b3⟩ := r_putsAside_ok m
  obtain ⟨x1, x2, x3, x4⟩ := X
  obtain ⟨m2, d1, d2, d3⟩ := isSlip_loop w hD h0 h20 hx ha hg hN len.toNat xLF (m := m1) (s := s) (by omega) (by rw [xLF_eq]; omega) (RH_cg x1 (fun a j z1 z2 _ => ldq (b3 a j (by omega)))) (NR_cg hn (fun k => ldq (b3 110 k (by decide)))) hv (by rw [ldq (b3 78 46 (by decide))]; exact x2) (fun i z1 z2 => by rw [ldq (b3 112 i (by decide))]; exact x3 i z1 z2)
  rw [show len - (len.toNat : Int) = 0 by omega] at d1
  have fv : fV m m2 := fun a j z1 z2 z3 z4 => by rw [d3 a j z1 z3 z4, b3 a j z2]
  unfold r_isSlip
  rw [b1, bnd_some, d1]
  refine ⟨m2, ?_, ⟨RH_cg x1 (fun a j z1 z2 _ => ldq (fv a j (by omega) (by omega) (by omega) (by omega))), by rw [ldq (fv 78 46 (by decide) (by decide) (by decide) (by decide))]; exact x2, fun i z1 z2 => by rw [ldq (fv 112 i (by decide) (by decide) (by decide) (by omega))]; exact x3 i z1 z2, fun i z1 z2 => by rw [d2 i z1 z2, b2 i z1 z2, x4 i z1 z2]⟩, fv⟩
  have : (ew G N len s g a x = true) = (eF G (sbN N a x) len len.toNat s ≠ -1 ∧ od G (eF G (sbN N a x) len len.toNat s) = g) := by
    unfold ew
    simp
  simp only [this]
def fWs (m m' : xm) : Prop := ∀ a j, a ≠ 110 → a ≠ 111 → a ≠ 140 → ¬ (a = 78 ∧ (j = 90 ∨ j = 56 ∨ j = 57)) → m' a j = m a j
def LR (m : xm) (t : Int × Int × Int) : Prop := ld m 78 56 = t.2.1 ∧ ld m 78 57 = t.2.2
theorem NR_of {m m' : xm} {G : hv} {s : Int} (w : wfS G) (H : NR m G s) (e : ∀ i, 0 ≤ i → i < 127 → ld m' 110 i = ld m 110 i) : NR m' G s := by
  have g := w.2.1
  exact ⟨fun l g1 g2 => by rw [e _ (by omega) (by omega)]; exact H.1 l g1 g2, by rw [e _ (by omega) (by omega)]; exact H.2⟩
theorem r_slip_in {G : hv} (w : wfG G) (hD : wfD G) {N n0 : Int → Int} {len g s k : Int} (h0 : 0 ≤ len) (h20 : len ≤ 20) (hg : rg g) (hN : ∀ i, 0 ≤ i → i < len → ntk G (N i)) (hv : vs G s) (hk0 : 0 ≤ k) (hk1 : k < len) (hnr : ∀ m, RX m G N len n0 → NR m G s) {K : Int → Int → Int → xm → xr} : ∀ (r f : Nat) {m : xm} {t : Int × Int × Int}, (r : Int) ≤ nN G + 1 → r < f → RX m G N len n0 → LR m t → 0 ≤ t.1 → t.1 + (r : Int) ≤ 200 → ∃ m', r_slip_47 K f g t.1 k (nN G + 1 - (r : Int)) m = K g (inR (nN G) (hit G N len s g k) k r t).1 (k + 1) m' ∧ fWs m m' ∧ RX m' G N len n0 ∧ LR m' (inR (nN G) (hit G N len s g k) k r t) ∧ 0 ≤ (inR (nN G) (hit G N len s g k) k r t).1 ∧ (inR (nN G) (hit G N len s g k) k r t).1 ≤ t.1 + (r : Int) := by
  have gN := w.2.1
  intro r
  induction r with
  | zero =>
    intro f m t hr hf X L c0 c1
    obtain ⟨f, rfl⟩ : ∃ f', f = f' + 1 := ⟨f - 1, by omega⟩
    rw [r_slip_47, r_noteMany_ok X.1, bnd_some, w32_id (x := nN G) (by omega) (by omega), w32_id (x := nN G + 1 - ((0 : Nat) : Int)) (by omega) (by omega), if_pos (by omega)]
    exact ⟨m, rfl, fun _ _ _ _ _ _ => rfl, X, L, c0, by unfold inR; omega⟩
  | succ r ih =>
    intro f m t hr hf X L c0 c1
    obtain ⟨f, rfl⟩ : ∃ f', f = f' + 1 := ⟨f - 1, by omega⟩
    obtain ⟨v, hv4⟩ : ∃ v, nN G + 1 - ((r + 1 : Nat) : Int) = v := ⟨_, rfl⟩
    obtain ⟨x, hx⟩ : ∃ x, cnd (nN G) r = x := ⟨_, rfl⟩
    have nx : ntk G x := by
      rw [← hx]
      unfold cnd ntk
      split <;> omega
    have hnk := hN k (by omega) (by omega)
    have hnr1 : rg (N k) := by rcases hnk with z | z <;> unfold rg <;> omega
    have hxr : rg x := by rcases nx with z | z <;> unfold rg <;> omega
    have go : ∀ {m1 t1}, fWs m m1 → RX m1 G N len n0 → LR m1 t1 → 0 ≤ t1.1 → t1.1 ≤ t.1 + 1 → ∃ m', r_slip_117 K (fun v1 v2 v3 v4 m => r_slip_47 K f v1 v2 v3 v4 m) g t1.1 k v m1 = K g (inR (nN G) (hit G N len s g k) k r t1).1 (k + 1) m' ∧ fWs m m' ∧ RX m' G N len n0 ∧ LR m' (inR (nN G) (hit G N len s g k) k r t1) ∧ 0 ≤ (inR (nN G) (hit G N len s g k) k r t1).1 ∧ (inR (nN G) (hit G N len s g k) k r t1).1 ≤ t.1 + ((r + 1 : Nat) : Int) := by
      intro m1 t1 f1 X1 L1 d0 d1
      obtain ⟨m2, b1, b2, b3, b4, b5, b6⟩ := ih f (m := m1) (t := t1) (by omega) (by omega) X1 L1 d0 (by omega)
      refine ⟨m2, ?_, fun a j z1 z2 z3 z4 => by rw [b2 a j z1 z2 z3 z4, f1 a j z1 z2 z3 z4], b3, b4, b5, by omega⟩
      unfold r_slip_117
      rw [show v + 1 = nN G + 1 - (r : Int) by omega]
      exact b1
    have step : ∃ m', r_slip_72 K (fun v1 v2 v3 v4 m => r_slip_47 K f v1 v2 v3 v4 m) g t.1 k v x m = K g (inR (nN G) (hit G N len s g k) k (r + 1) t).1 (k + 1) m' ∧ fWs m m' ∧ RX m' G N len n0 ∧ LR m' (inR (nN G) (hit G N len s g k) k (r + 1) t) ∧ 0 ≤ (inR (nN G) (hit G N len s g k) k (r + 1) t).1 ∧ (inR (nN G) (hit G N len s g k) k (r + 1) t).1 ≤ t.1 + ((r + 1 : Nat) : Int) := by
      rw [inR, hx]
      unfold r_slip_72
      rw [xlt_eq, ial_in (by omega) (by rw [al112]; omega), X.2.2.1 k (by omega) (by omega), w32_rg hnr1, w32_rg hxr]
      by_cases q : x = N k
      · have e : hit G N len s g k x = false := by
          unfold hit
          simp [q]
        rw [if_pos q, e]
        exact go (t1 := t) (fun _ _ _ _ _ _ => rfl) X L c0 (by omega)
      · obtain ⟨m1, b1, b2, b3⟩ := r_isSlip_ok w hD (x := x) (a := k) h0 h20 nx ⟨by omega, by omega⟩ hg hN X (hnr m X) hv
        have e : hit G N len s g k x = ew G N len s g k x := by
          unfold hit
          simp [q]
        have f1 : fWs m m1 := fun a j z1 z2 z3 z4 => b3 a j z1 z2 z3 (by omega)
        have L1 : LR m1 t := by
          unfold LR
          rw [ldq (b3 78 56 (by decide) (by decide) (by decide) (by decide)), ldq (b3 78 57 (by decide) (by decide) (by decide) (by decide))]
          exact L
        rw [if_neg q, b1, bnd_some, e]
        by_cases c : ew G N len s g k x = true
        · rw [if_pos c, if_neg (by decide), c, w32_id (x := t.1) (by omega) (by omega)]
          have e1 : t.1 + 1 = (sla true k x t).1 := rfl
          unfold r_slip_114
          rw [e1, stf_eq, stf_eq]
          by_cases cz : t.1 = 0
          · rw [if_pos cz]
            refine go (fun a j z1 z2 z3 z4 => by rw [st_at (by omega), st_at (by omega), f1 a j z1 z2 z3 z4]) ?_ ?_ (by rw [← e1]; omega) (by rw [← e1]; omega)
            · obtain ⟨y1, y2, y3, y4⟩ := b2
              exact ⟨RH_cg y1 (fun a j z1 z2 _ => by rw [ld_st_nc (by omega), ld_st_nc (by omega)]), by rw [ld_st_ne (by decide), ld_st_ne (by decide), y2], fun i z1 z2 => by rw [ld_st_nc (by decide), ld_st_nc (by decide), y3 i z1 z2], fun i z1 z2 => by rw [ld_st_nc (by decide), ld_st_nc (by decide), y4 i z1 z2]⟩
            · unfold LR sla
              rw [if_pos rfl, if_pos cz, if_pos cz]
              exact ⟨by rw [ld_st_ne (by decide), ld_st_eq, w32_id (by omega) (by omega)], by rw [ld_st_eq, w32_rg hxr]⟩
          · rw [if_neg cz]
            refine go f1 b2 ?_ (by rw [← e1]; omega) (by rw [← e1]; omega)
            unfold LR sla
            rw [if_pos rfl, if_neg cz, if_neg cz]
            exact L1
        · rw [if_neg c, if_pos (by decide), Bool.eq_false_iff.mpr c]
          exact go (t1 := t) f1 b2 L1 c0 (by omega)
    obtain ⟨m3, s1, s2⟩ := step
    refine ⟨m3, ?_, s2⟩
    rw [← s1, r_slip_47, r_noteMany_ok X.1, bnd_some, hv4, w32_id (x := nN G) (by omega) (by omega), w32_id (x := v) (by omega) (by omega), if_neg (by omega), r_noteMany_ok X.1, bnd_some, w32_id (x := nN G) (by omega) (by omega), ← hx]
    unfold cnd
    by_cases e : v = nN G
    · rw [if_pos e, if_pos (by omega)]
    · rw [if_neg e, if_neg (by omega), show nN G - (r : Int) = v by omega]
theorem r_slip_out {G : hv} (w : wfG G) (hD : wfD G) {N n0 : Int → Int} {len g s : Int} (h0 : 0 ≤ len) (h20 : len ≤ 20) (hg : rg g) (hN : ∀ i, 0 ≤ i → i < len → ntk G (N i)) (hv : vs G s) (hnr : ∀ m, RX m G N len n0 → NR m G s) : ∀ (r f : Nat) {m : xm} {t : Int × Int × Int}, (r : Int) ≤ len → r < f → RX m G N len n0 → LR m t → 0 ≤ t.1 → t.1 ≤ 7 * (20 - (r : Int)) → ∃ m', r_slip_36 f g t.1 (len - (r : Int)) m = some ((ouC (hit G N len s g) len r t).1, m') ∧ fWs m m' ∧ RX m' G N len n0 ∧ LR m' (ouC (hit G N len s g) len r t) := by
  have gN := w.2.1
  intro r
  induction r with
  | zero =>
    intro f m t hr hf X L c0 c1
    obtain ⟨f, rfl⟩ : ∃ f', f = f' + 1 := ⟨f - 1, by omega⟩
    rw [r_slip_36, X.2.1, w32_id (x := len - ((0 : Nat) : Int)) (by omega) (by omega), if_pos (by omega)]
    exact ⟨m, rfl, fun _ _ _ _ _ _ => rfl, X, L⟩
  | succ r ih =>
    intro f m t hr hf X L c0 c1
    obtain ⟨f, rfl⟩ : ∃ f', f = f' + 1 := ⟨f - 1, by omega⟩
    obtain ⟨k, hk⟩ : ∃ k, len - ((r + 1 : Nat) : Int) = k := ⟨_, rfl⟩
    have eq7 : inC (hit G N len s g k) k 7 t = inR (nN G) (hit G N len s g k) k ((nN G).toNat + 1) t := inC_inR gN.1 gN.2 (fun x z1 z2 => by
      unfold hit ew
      rw [eF_bad (a := k) (fun z => by
        unfold sbN at z
        rw [if_pos rfl] at z
        rcases z with z | z <;> omega) len.toNat (by omega) (by omega)]
      simp)
    obtain ⟨m1, b1, b2, b3, b4, b5, b6⟩ := r_slip_in w hD (k := k) h0 h20 hg hN hv (by omega) (by omega) hnr (K := fun v1 v2 v3 m => r_slip_36 f v1 v2 v3 m) ((nN G).toNat + 1) xLF (m := m) (t := t) (by omega) (by rw [xLF_eq]; omega) X L c0 (by omega)
    rw [← eq7] at b1 b4 b5 b6
    obtain ⟨m2, d1, d2, d3, d4⟩ := ih f (m := m1) (t := inC (hit G N len s g k) k 7 t) (by omega) (by omega) b3 b4 b5 (by omega)
    rw [r_slip_36, ouC, hk, X.2.1, w32_id (x := k) (by omega) (by omega), if_neg (by omega)]
    refine ⟨m2, ?_, fun a j z1 z2 z3 z4 => by rw [d2 a j z1 z2 z3 z4, b2 a j z1 z2 z3 z4], d3, d4⟩
    rw [show nN G + 1 - (((nN G).toNat + 1 : Nat) : Int) = 0 by omega] at b1
    refine Eq.trans b1 ?_
    rw [show k + 1 = len - (r : Int) by omega]
    exact d1
