/-! forbid -/
def aXs (G : hv) (X : Int) : Int := ban (bd (nN G)) (bxo X (-1))
theorem ax0 : ∀ n : Nat, n < 7 → ∀ x : Nat, x < 64 → ∀ y : Nat, y < n → (bt (ban (bd (n : Int)) (bxo (x : Int) (-1))) (y : Int) = 1 ↔ bt (x : Int) (y : Int) ≠ 1) := by decide +kernel
theorem ax_bt {G : hv} (w : wfG G) {X y : Int} (h1 : 0 ≤ X) (h2 : X < 64) (h3 : 0 ≤ y) (h4 : y < nN G) : bt (aXs G X) y = 1 ↔ bt X y ≠ 1 := by
  have g := w.2.1
  unfold aXs
  obtain ⟨n, hn, e⟩ := nat2 (n := 7) g.1 (by omega)
  obtain ⟨a, ha, rfl⟩ := nat2 (n := 64) h1 h2
  obtain ⟨b, hb, rfl⟩ := nat2 (n := 7) h3 (by omega)
  rw [e]
  exact ax0 n hn a ha b (by omega)
theorem dis0 : ∀ a : Nat, a < 64 → ∀ b : Nat, b < 64 → ∀ y : Nat, y < 6 → ¬ (ban (a : Int) (b : Int) = 0 ∧ bt (b : Int) (y : Int) = 1 ∧ bt (a : Int) (y : Int) = 1) := by decide +kernel
def sq (G : hv) (s0 g X : Int) : Int × List qe := bfq G (aXs G X) (Sk G 2 g) 1297 0 [(s0, -1, -1, 0)]
def PX (G : hv) (s0 g X : Int) : Bool := decide ((sq G s0 g X).1 = -1)
theorem mask_ok {G : hv} (w : wfG G) {s0 g X Y : Int} {j : Nat} (hv : vs G s0) (Q : okQ G s0 (sq G s0 g X).2) (hj : j < (sq G s0 g X).2.length) (hS : Sk G 2 g (gd (sq G s0 g X).2 j).1 = true) (hN0 : 0 ≤ nts (sq G s0 g X).2 (gd (sq G s0 g X).2 j).2.2.2.toNat j 0) (hN1 : nts (sq G s0 g X).2 (gd (sq G s0 g X).2 j).2.2.2.toNat j 0 < 64) (hY0 : 0 ≤ Y) (hY1 : Y < 64) (hb : ban Y (nts (sq G s0 g X).2 (gd (sq G s0 g X).2 j).2.2.2.toNat j 0) = 0) : PX G s0 g Y = false := by
  have gN := w.2.1
  have oA : okA G (aXs G X) (sq G s0 g X).2 := okA_bfq w 1297 0 (okQ_0 hv) (fun i z1 z2 => by
    have : i < 1 := z2
    omega)
  have b := (Q.2.1 j hj).2.2.1
  obtain ⟨L, hL⟩ := nts_way w Q oA (A' := aXs G Y) (gd (sq G s0 g X).2 j).2.2.2.toNat j (x := 0) hj (by omega) (by decide) (by decide) (fun y y0 y1 yb => by
    refine (ax_bt w hY0 hY1 y0 y1).mpr ?_
    obtain ⟨a, ha, ea⟩ := nat2 (n := 64) hY0 hY1
    obtain ⟨c, hc, ec⟩ := nat2 (n := 64) hN0 hN1
    obtain ⟨d, hd, ed⟩ := nat2 (n := 6) y0 (by omega)
    rw [ec] at hb yb
    rw [ea] at hb ⊢
    rw [ed] at yb ⊢
    exact fun z => dis0 a ha c hc d hd ⟨hb, yb, z⟩)
  refine Bool.eq_false_iff.mpr (fun z => ?_)
  have z' : (sq G s0 g Y).1 = -1 := of_decide_eq_true z
  have := bfq_full w (So := Sk G 2 g) hv z' hL
  rw [hS] at this
  exact absurd this (by decide)
/-- what the program's loops keep -/
def FX (m : xm) (h : Nat) (G : hv) (s0 g : Int) : Prop := hl m 12 = h ∧ CH m h G ∧ ld m 22 0 = s0 ∧ ld m 11 5 = 2 ∧ ld m 11 6 = g
theorem FX_fQ {m m' : xm} {h : Nat} {G : hv} {s0 g : Int} (p : isH h) (X : FX m h G s0 g) (f : fQ h m m') : FX m' h G s0 g := by
  have pr := isH_rng p
  obtain ⟨x1, x2, x3, x4, x5⟩ := X
  exact ⟨by rw [hl_cg (f 0 12 (by unfold fCQ; omega) (by omega) (by omega) (by omega)), x1], fQ_CH p f x2, by rw [ldq (f 22 0 (by unfold fCQ; omega) (by omega) (by omega) (by omega)), x3], by rw [ldq (f 11 5 (by unfold fCQ; omega) (by omega) (by omega) (by omega)), x4], by rw [ldq (f 11 6 (by unfold fCQ; omega) (by omega) (by omega) (by omega)), x5]⟩
theorem forbid_in {G : hv} {h : Nat} (p : isH h) (w : wfG G) (hD : wfD G) {s0 g c : Int} (hv : vs G s0) (hc0 : 0 ≤ c) (hc6 : c ≤ 6) {K : Int → Int → Int → xm → xr} : ∀ (r f : Nat) {m : xm} {v : Int}, (r : Int) ≤ bd (nN G) + 1 → r < f → FX m h G s0 g → CM m h G → (∀ y : Nat, (y : Int) ≤ bd (nN G) → lbt v y = true → PX G s0 g y = false) → (∀ y, 0 ≤ y → y < bd (nN G) + 1 - (r : Int) → bc y = c → PX G s0 g y = false) → (∃ v' m', cL_forbid_65 K f (bd (nN G)) v c (bd (nN G) + 1 - (r : Int)) m = K (bd (nN G)) v' (c + 1) m' ∧ fQ h m m' ∧ CM m' h G ∧ (∀ y : Nat, (y : Int) ≤ bd (nN G) → lbt v' y = true → PX G s0 g y = false) ∧ ∀ y, 0 ≤ y → y ≤ bd (nN G) → bc y = c → PX G s0 g y = false) ∨ ∃ x m', cL_forbid_65 K f (bd (nN G)) v c (bd (nN G) + 1 - (r : Int)) m = some (x, m') ∧ fQ h m m' ∧ CM m' h G ∧ 0 ≤ x ∧ x ≤ bd (nN G) ∧ PX G s0 g x = true ∧ bc x = c ∧ ∀ y, 0 ≤ y → y < x → bc y = c → PX G s0 g y = false := by
  have pr := isH_rng p
  have gN := w.2.1
  have bN := bd_rng gN.1 gN.2
  intro r
  induction r with
  | zero =>
    intro f m v hr hf X M hm hi
    obtain ⟨f, rfl⟩ : ∃ f', f = f' + 1 := ⟨f - 1, by omega⟩
    refine Or.inl ⟨v, m, ?_, fun _ _ _ _ _ _ => rfl, M, hm, fun y z1 z2 z3 => hi y z1 (by omega) z3⟩
    rw [cL_forbid_65, w32_id (x := bd (nN G)) (by omega) (by omega), w32_id (x := bd (nN G) + 1 - ((0 : Nat) : Int)) (by omega) (by omega), if_pos (by omega)]
    rfl
  | succ r ih =>
    intro f m v hr hf X M hm hi
    obtain ⟨f, rfl⟩ : ∃ f', f = f' + 1 := ⟨f - 1, by omega⟩
    obtain ⟨k, hk⟩ : ∃ k : Nat, bd (nN G) + 1 - ((r + 1 : Nat) : Int) = (k : Int) := ⟨(bd (nN G) + 1 - ((r + 1 : Nat) : Int)).toNat, by omega⟩
    rw [hk] at hi ⊢
    have bk := bc_rng (j := (k : Int))
    have go : ∀ {m1 v1}, fQ h m m1 → CM m1 h G → (∀ y : Nat, (y : Int) ≤ bd (nN G) → lbt v1 y = true → PX G s0 g y = false) → (bc (k : Int) = c → PX G s0 g (k : Int) = false) → (∃ v' m', cL_forbid_145 K (fun v2 v3 v5 v6 m => cL_forbid_65 K f v2 v3 v5 v6 m) (bd (nN G)) v1 c (k : Int) m1 = K (bd (nN G)) v' (c + 1) m' ∧ fQ h m m' ∧ CM m' h G ∧ (∀ y : Nat, (y : Int) ≤ bd (nN G) → lbt v' y = true → PX G s0 g y = false) ∧ ∀ y, 0 ≤ y → y ≤ bd (nN G) → bc y = c → PX G s0 g y = false) ∨ ∃ x m', cL_forbid_145 K (fun v2 v3 v5 v6 m => cL_forbid_65 K f v2 v3 v5 v6 m) (bd (nN G)) v1 c (k : Int) m1 = some (x, m') ∧ fQ h m m' ∧ CM m' h G ∧ 0 ≤ x ∧ x ≤ bd (nN G) ∧ PX G s0 g x = true ∧ bc x = c ∧ ∀ y, 0 ≤ y → y < x → bc y = c → PX G s0 g y = false := by
      intro m1 v1 f1 M1 hm1 hp
      have q := ih f (m := m1) (v := v1) (by omega) (by omega) (FX_fQ p X f1) M1 hm1 (fun y z1 z2 z3 => by
        by_cases e : y = (k : Int)
        · rw [e] at z3 ⊢; exact hp z3
        · exact hi y z1 (by omega) z3)
      rw [show bd (nN G) + 1 - (r : Int) = (k : Int) + 1 by omega] at q
      unfold cL_forbid_145
      rcases q with ⟨v', m', q1, q2, q3⟩ | ⟨x, m', q1, q2, q3⟩
      · exact Or.inl ⟨v', m', q1, fQ_trans f1 q2, q3⟩
      · exact Or.inr ⟨x, m', q1, fQ_trans f1 q2, q3⟩
    rw [cL_forbid_65, w32_id (x := bd (nN G)) (by omega) (by omega), w32_id (x := (k : Int)) (by omega) (by omega), if_neg (by omega), j_bitCount_bc (by omega) (by omega), bnd_some, w32_id (x := bc (k : Int)) (by omega) (by omega), w32_id (x := c) (by omega) (by omega)]
    by_cases hc : bc (k : Int) = c
    · rw [if_pos hc]
      by_cases hb : lbt v k = true
      · rw [if_pos ((lan_bit (by omega)).mpr hb)]
        exact go (fun _ _ _ _ _ _ => rfl) M hm (fun _ => hm k (by omega) hb)
      · obtain ⟨x1, x2, x3, x4, x5⟩ := X
        have an := ban_not (x := bd (nN G)) (y := (k : Int)) bN.1 bN.2 (by omega) (by omega)
        obtain ⟨m1, a1, a2, a3, a4, a5⟩ := cS_find_ok p w hD (s0 := s0) (A := aXs G k) (k := 2) (g := g) an.1 an.2 (by decide) (by decide) hv x2 M x4 (fun _ => x5)
        rw [if_neg (fun z => hb ((lan_bit (by omega)).mp z)), cY_state_ok, bnd_some, x3, x1, show ban (bd (nN G)) (bxo (k : Int) (-1)) = aXs G k from rfl, a1, bnd_some]
        have a4' : CQ m1 (sq G s0 g k).2 := a4
        have a5' : okQ G s0 (sq G s0 g k).2 := a5
        have res := bfq_res (G := G) (A := aXs G k) (So := Sk G 2 g) 1297 0 (q := [(s0, -1, -1, 0)])
        rcases res with z | ⟨j, z1, z2, z3⟩
        · rw [z, if_pos (by decide)]
          exact Or.inr ⟨k, m1, rfl, a2, a3, by omega, by omega, decide_eq_true z, hc, hi⟩
        · have len := okQ_len w a5
          have no := cS_notesTo_ok w a5' a4' (i := j) z2
          obtain ⟨y9, s1, s2⟩ := cL_setsWithout_ok (N := nts (sq G s0 g k).2 (gd (sq G s0 g k).2 j).2.2.2.toNat j 0) (m := m1)
          rw [z1, w32_id (x := (j : Int)) (by omega) (by omega), if_neg (by omega), no.1, bnd_some, s1, bnd_some, xlt_eq]
          refine go a2 a3 (fun y yb yt => ?_) (fun _ => ?_)
          · rw [lbo_bit, Bool.or_eq_true] at yt
            rcases yt with yt | yt
            · exact hm y yb yt
            · exact mask_ok w hv a5' z2 z3 no.2.1 no.2.2 (by omega) (by omega) ((s2 y (by omega)).mp yt)
          · refine Bool.eq_false_iff.mpr (fun e => ?_)
            have e' : (sq G s0 g k).1 = -1 := of_decide_eq_true e
            have e2 : (sq G s0 g k).1 = (j : Int) := z1
            omega
    · rw [if_neg hc]
      exact go (fun _ _ _ _ _ _ => rfl) M hm (fun z => absurd z hc)
theorem forbid_out {G : hv} {h : Nat} (p : isH h) (w : wfG G) (hD : wfD G) {s0 g : Int} (hv : vs G s0) : ∀ (r f : Nat) {m : xm} {v : Int}, r ≤ 7 → r < f → FX m h G s0 g → CM m h G → (∀ y : Nat, (y : Int) ≤ bd (nN G) → lbt v y = true → PX G s0 g y = false) → (∀ y, 0 ≤ y → y ≤ bd (nN G) → bc y < 7 - (r : Int) → PX G s0 g y = false) → ∃ x m', cL_forbid_55 f (bd (nN G)) v (7 - (r : Int)) m = some (x, m') ∧ fQ h m m' ∧ CM m' h G ∧ bst (PX G s0 g) x (bd (nN G) + 1) := by
  have gN := w.2.1
  have bN := bd_rng gN.1 gN.2
  intro r
  induction r with
  | zero =>
    intro f m v hr hf X M hm hi
    obtain ⟨f, rfl⟩ : ∃ f', f = f' + 1 := ⟨f - 1, by omega⟩
    rw [cL_forbid_55, if_pos (by decide)]
    exact ⟨-1, m, rfl, fun _ _ _ _ _ _ => rfl, M, Or.inl ⟨rfl, fun y z1 z2 => hi y z1 (by omega) (by have := bc_rng (j := y); omega)⟩⟩
  | succ r ih =>
    intro f m v hr hf X M hm hi
    obtain ⟨f, rfl⟩ : ∃ f', f = f' + 1 := ⟨f - 1, by omega⟩
    obtain ⟨k, hk⟩ : ∃ k, (7 : Int) - ((r + 1 : Nat) : Int) = k := ⟨_, rfl⟩
    rw [hk] at hi ⊢
    rw [cL_forbid_55, w32_id (x := k) (by omega) (by omega), if_neg (by omega)]
    have q := forbid_in p w hD hv (c := k) (by omega) (by omega) (K := fun v2 v3 v5 m => cL_forbid_55 f v2 v3 v5 m) (bd (nN G) + 1).toNat xLF (m := m) (v := v) (by omega) (by rw [xLF_eq]; omega) X M hm (fun y z1 z2 => by omega)
    rw [show bd (nN G) + 1 - ((bd (nN G) + 1).toNat : Int) = 0 by omega] at q
    rcases q with ⟨v', m', q1, q2, q3, q4, q5⟩ | ⟨x, m', q1, q2, q3, q4, q5, q6, q7, q8⟩
    · obtain ⟨x, m2, d1, d2, d3, d4⟩ := ih f (m := m') (v := v') (by omega) (by omega) (FX_fQ p X q2) q3 q4 (fun y z1 z2 z3 => by
        by_cases e : bc y = k
        · exact q5 y z1 z2 e
        · exact hi y z1 z2 (by omega))
      rw [q1, show k + 1 = 7 - (r : Int) by omega]
      exact ⟨x, m2, d1, fQ_trans q2 d2, d3, d4⟩
    · rw [q1]
      refine ⟨x, m', rfl, q2, q3, Or.inr ⟨q4, by omega, q6, fun y z1 z2 z3 => ?_⟩⟩
      by_cases e : bc y = k
      · by_cases l : y < x
        · rw [q8 y z1 l e] at z3
          exact absurd z3 (by decide)
        · exact Or.inr ⟨by omega, by omega⟩
      · by_cases l : bc y < k
        · rw [hi y z1 (by omega) l] at z3
          exact absurd z3 (by decide)
        · exact Or.inl (by omega)
