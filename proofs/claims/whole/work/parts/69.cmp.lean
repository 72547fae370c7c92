/-! a search finds what can be reached, and nothing else -/
def rn (G : hv) (A : Int) : List Int → Int → Int → Prop
  | [], s, t => s = t
  | y :: L, s, t => (0 ≤ y ∧ y < nN G ∧ bt A y = 1 ∧ cp G s y) ∧ rn G A L (ag G y s) t
theorem rch_mem {s p y u : Int} {q : List qe} : u ∈ fsq (rch s p y q) ↔ u ∈ fsq q ∨ u = s := by
  unfold rch
  split
  · next h =>
    constructor
    · exact fun z => Or.inl z
    · rintro (z | z)
      · exact z
      · rw [z]; exact h
  · rw [fsq_app, List.mem_append, List.mem_singleton]
theorem exq_mono {G : hv} {A s u : Int} {i : Nat} : ∀ (r : Nat) {q : List qe}, u ∈ fsq q → u ∈ fsq (exq G A s i r q)
  | 0, _, h => h
  | r + 1, q, h => by
    rw [exq]
    refine exq_mono r ?_
    split
    · exact rch_mem.mpr (Or.inl h)
    · exact h
theorem exq_mem {G : hv} {A s y : Int} {i : Nat} (ha : bt A y = 1) (hc : cp G s y) (hy : y < nN G) : ∀ (r : Nat) {q : List qe}, nN G - (r : Int) ≤ y → ag G y s ∈ fsq (exq G A s i r q)
  | 0, q, h => by omega
  | r + 1, q, h => by
    rw [exq]
    by_cases e : nN G - ((r + 1 : Nat) : Int) = y
    · rw [e, if_pos ⟨ha, cpb_iff.mpr hc⟩]
      exact exq_mono r (rch_mem.mpr (Or.inr rfl))
    · exact exq_mem ha hc hy r (by omega)
/-- up to i all is done: not sought, and what follows is in the queue -/
def cls (G : hv) (A : Int) (So : Int → Bool) (i : Nat) (q : List qe) : Prop := ∀ j, j < i → j < q.length → So (gd q j).1 = false ∧ ∀ y, 0 ≤ y → y < nN G → bt A y = 1 → cp G (gd q j).1 y → ag G y (gd q j).1 ∈ fsq q
theorem bfq_cls {G : hv} (w : wfG G) {s0 A : Int} {So : Int → Bool} : ∀ (r i : Nat) {q : List qe}, r + i = 1297 → okQ G s0 q → cls G A So i q → (bfq G A So r i q).1 = -1 → okQ G s0 (bfq G A So r i q).2 ∧ cls G A So (bfq G A So r i q).2.length (bfq G A So r i q).2
  | 0, i, q, hr, Q, C, _ => by
    have len := okQ_len w Q
    rw [bfq]
    exact ⟨Q, fun j z1 z2 => C j (by dsimp only at z2; omega) z2⟩
  | r + 1, i, q, hr, Q, C, h => by
    rw [bfq] at h ⊢
    by_cases c : q.length ≤ i
    · rw [if_pos c]
      exact ⟨Q, fun j z1 z2 => C j (by dsimp only at z2; omega) z2⟩
    · rw [if_neg c] at h ⊢
      by_cases e : So (gd q i).1 = true
      · rw [if_pos e] at h
        dsimp only at h
        omega
      · rw [if_neg e] at h ⊢
        have gN := w.2.1
        have hi : i < q.length := by omega
        have k := exq_ok w (A := A) (s := (gd q i).1) (i := i) (nN G).toNat (by omega) Q hi rfl
        refine bfq_cls w r (i + 1) (by omega) k.1 (fun j z1 z2 => ?_) h
        have jl : j < q.length := by omega
        rw [k.2.2 j jl]
        by_cases ej : j = i
        · subst ej
          exact ⟨Bool.eq_false_iff.mpr e, fun y y1 y2 y3 y4 => exq_mem y3 y4 y2 _ (by omega)⟩
        · have cj := C j (by omega) jl
          exact ⟨cj.1, fun y y1 y2 y3 y4 => exq_mono _ (cj.2 y y1 y2 y3 y4)⟩
theorem rn_in {G : hv} {A : Int} {So : Int → Bool} {q : List qe} (C : cls G A So q.length q) : ∀ (L : List Int) {s t : Int}, s ∈ fsq q → rn G A L s t → So t = false
  | [], s, t, hs, h => by
    obtain ⟨j, j1, j2⟩ := fsq_ex hs
    have h' : s = t := h
    rw [← h', ← j2]
    exact (C j j1 j1).1
  | y :: L, s, t, hs, h => by
    obtain ⟨j, j1, j2⟩ := fsq_ex hs
    obtain ⟨⟨h1, h2, h3, h4⟩, h5⟩ := h
    rw [← j2] at h4 h5
    exact rn_in C L ((C j j1 j1).2 y h1 h2 h3 h4) h5
theorem bfq_full {G : hv} (w : wfG G) {s0 A : Int} {So : Int → Bool} (hv : vs G s0) (h : (bfq G A So 1297 0 [(s0, -1, -1, 0)]).1 = -1) {L : List Int} {t : Int} (hr : rn G A L s0 t) : So t = false := by
  have k := bfq_cls w (A := A) (So := So) 1297 0 (by omega) (okQ_0 hv) (fun j z => absurd z (Nat.not_lt_zero _)) h
  refine rn_in k.2 L ?_ hr
  have z := gd_mem k.1.1.1
  rw [k.1.1.2] at z
  exact z
/-- each came by a note that may be played -/
def okA (G : hv) (A : Int) (q : List qe) : Prop := ∀ i, 0 < i → i < q.length → bt A (gd q i).2.2.1 = 1 ∧ cp G (gd q (gd q i).2.1.toNat).1 (gd q i).2.2.1 ∧ (gd q i).1 = ag G (gd q i).2.2.1 (gd q (gd q i).2.1.toNat).1
theorem okA_rch {G : hv} {s0 A s y : Int} {i : Nat} {q : List qe} (Q : okQ G s0 q) (H : okA G A q) (hi : i < q.length) (hs : (gd q i).1 = s) (ha : bt A y = 1) (hc : cp G s y) : okA G A (rch (ag G y s) (i : Int) y q) := by
  unfold rch
  split
  · exact H
  · intro j j0 hj
    rw [List.length_append] at hj
    have hj2 : j < q.length + 1 := hj
    by_cases e : j = q.length
    · subst e
      rw [gd_eq]
      dsimp only
      rw [Int.toNat_natCast, gd_lt hi, hs]
      exact ⟨ha, hc, rfl⟩
    · have jl : j < q.length := by omega
      have pj := (Q.2.1 j jl).2.2.2 j0
      rw [gd_lt jl, gd_lt (by omega)]
      exact H j j0 jl
theorem okA_exq {G : hv} (w : wfG G) {s0 s A : Int} {i : Nat} : ∀ (r : Nat) {q : List qe}, (r : Int) ≤ nN G → okQ G s0 q → okA G A q → i < q.length → (gd q i).1 = s → okA G A (exq G A s i r q)
  | 0, q, _, _, H, _, _ => H
  | r + 1, q, hr, Q, H, hi, hs => by
    rw [exq]
    by_cases c : bt A (nN G - ((r + 1 : Nat) : Int)) = 1 ∧ cpb G s (nN G - ((r + 1 : Nat) : Int)) = true
    · rw [if_pos c]
      have px := pfx_rch (s := ag G (nN G - ((r + 1 : Nat) : Int)) s) (p := (i : Int)) (y := nN G - ((r + 1 : Nat) : Int)) (q := q)
      exact okA_exq w r (by omega) (rch_ok w Q hi hs (by omega) (by omega) (cpb_iff.mp c.2)) (okA_rch Q H hi hs c.1 (cpb_iff.mp c.2)) (Nat.lt_of_lt_of_le hi px.1) (by rw [px.2 i hi]; exact hs)
    · rw [if_neg c]
      exact okA_exq w r (by omega) Q H hi hs
theorem okA_bfq {G : hv} (w : wfG G) {s0 A : Int} {So : Int → Bool} : ∀ (r i : Nat) {q : List qe}, okQ G s0 q → okA G A q → okA G A (bfq G A So r i q).2
  | 0, _, _, _, H => H
  | r + 1, i, q, Q, H => by
    rw [bfq]
    by_cases c : q.length ≤ i
    · rw [if_pos c]
      exact H
    · rw [if_neg c]
      by_cases e : So (gd q i).1 = true
      · rw [if_pos e]
        exact H
      · have gN := w.2.1
        rw [if_neg e]
        exact okA_bfq w r (i + 1) (exq_ok w _ (by omega) Q (by omega) rfl).1 (okA_exq w _ (by omega) Q H (by omega) rfl)
theorem rn_app {G : hv} {A : Int} : ∀ (L M : List Int) {s t u : Int}, rn G A L s t → rn G A M t u → rn G A (L ++ M) s u
  | [], M, s, t, u, h1, h2 => by
    have : s = t := h1
    rw [this]
    exact h2
  | y :: L, M, s, t, u, h1, h2 => ⟨h1.1, rn_app L M h1.2 h2⟩
/-- the notes of the way to i, as bits -/
def nts (q : List qe) : Nat → Nat → Int → Int
  | 0, _, x => x
  | r + 1, i, x => nts q r (gd q i).2.1.toNat (sb x (gd q i).2.2.1)
theorem nts_mono {G : hv} {s0 : Int} {q : List qe} (Q : okQ G s0 q) (w : wfG G) {y : Int} (hy0 : 0 ≤ y) (hy6 : y < 6) : ∀ (r i : Nat) {x : Int}, i < q.length → (gd q i).2.2.2 = (r : Int) → 0 ≤ x → x < 64 → bt x y = 1 → bt (nts q r i x) y = 1
  | 0, _, _, _, _, _, _, h => h
  | r + 1, i, x, hi, hd, x0, x1, h => by
    have gN := w.2.1
    have b := Q.2.1 i hi
    obtain ⟨p1, p2, p3, p4, p5⟩ := b.2.2.2 (by have := b.2.2.1; omega)
    rw [nts]
    have rg6 : 0 ≤ sb x (gd q i).2.2.1 ∧ sb x (gd q i).2.2.1 < 64 := by
      obtain ⟨a, ha, rfl⟩ := nat2 (n := 64) x0 x1
      obtain ⟨c, hc, e⟩ := nat2 (n := 6) p3 (by omega)
      rw [e]
      exact (sb_bt0 a ha c hc).2
    refine nts_mono Q w hy0 hy6 r _ (by omega) (by omega) rg6.1 rg6.2 ?_
    rw [sb_bt x0 x1 p3 (by omega) hy0 hy6]
    split
    · rfl
    · exact h
/-- with those notes the way can be gone under another set too -/
theorem nts_way {G : hv} {s0 A A' : Int} {q : List qe} (w : wfG G) (Q : okQ G s0 q) (H : okA G A q) : ∀ (r i : Nat) {x : Int}, i < q.length → (gd q i).2.2.2 = (r : Int) → 0 ≤ x → x < 64 → (∀ y, 0 ≤ y → y < nN G → bt (nts q r i x) y = 1 → bt A' y = 1) → ∃ L, rn G A' L s0 (gd q i).1
  | 0, i, x, hi, hd, x0, x1, hA => by
    have b := Q.2.1 i hi
    have i0 : i = 0 := by
      refine Decidable.byContradiction fun z => ?_
      obtain ⟨p1, p2, p3, p4, p5⟩ := b.2.2.2 (by omega)
      have := (Q.2.1 (gd q i).2.1.toNat (by omega)).2.2.1
      omega
    subst i0
    exact ⟨[], by rw [Q.1.2]; rfl⟩
  | r + 1, i, x, hi, hd, x0, x1, hA => by
    have gN := w.2.1
    have b := Q.2.1 i hi
    have i0 : 0 < i := by have := b.2.2.1; omega
    obtain ⟨p1, p2, p3, p4, p5⟩ := b.2.2.2 i0
    have hh := H i i0 hi
    have rg6 : 0 ≤ sb x (gd q i).2.2.1 ∧ sb x (gd q i).2.2.1 < 64 := by
      obtain ⟨a, ha, rfl⟩ := nat2 (n := 64) x0 x1
      obtain ⟨c, hc, e⟩ := nat2 (n := 6) p3 (by omega)
      rw [e]
      exact (sb_bt0 a ha c hc).2
    rw [nts] at hA
    obtain ⟨L, hL⟩ := nts_way w Q H r (gd q i).2.1.toNat (x := sb x (gd q i).2.2.1) (by omega) (by omega) rg6.1 rg6.2 hA
    have ay : bt A' (gd q i).2.2.1 = 1 := hA _ p3 p4 (nts_mono Q w p3 (by omega) r _ (by omega) (by omega) rg6.1 rg6.2 (by rw [sb_bt x0 x1 p3 (by omega) p3 (by omega), if_pos rfl]))
    refine ⟨L ++ [(gd q i).2.2.1], rn_app L _ hL ⟨⟨p3, p4, ay, hh.2.1⟩, ?_⟩⟩
    exact hh.2.2.symm
