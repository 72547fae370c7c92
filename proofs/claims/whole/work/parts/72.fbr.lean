/-! forbid in the reference -/
theorem fst1_m {G : hv} (w : wfG G) {s0 g X : Int} (Q : okQ G s0 (sq G s0 g X).2) : (w32 (fst1 (sq G s0 g X)) = -1 ↔ PX G s0 g X = true) := by
  have res := bfq_res (G := G) (A := aXs G X) (So := Sk G 2 g) 1297 0 (q := [(s0, -1, -1, 0)])
  unfold fst1 PX
  rcases res with z | ⟨j, z1, z2, z3⟩
  · have e : (sq G s0 g X).1 = -1 := z
    rw [if_pos e]
    exact ⟨fun _ => decide_eq_true e, fun _ => rfl⟩
  · have e : (sq G s0 g X).1 = (j : Int) := z1
    have b := Q.2.1 j z2
    have sr := vs_s w.1 b.1
    rw [if_neg (show ¬ ((sq G s0 g X).1 = -1) by omega), e, Int.toNat_natCast, w32_id (by omega) (by omega)]
    constructor
    · intro y
      omega
    · intro y
      have := of_decide_eq_true y
      omega
theorem r_forbid_loop {G : hv} (w : wfG G) (hD : wfD G) {s0 g : Int} (hv : vs G s0) (hg0 : 0 ≤ g) (hg1 : g < 64) : ∀ (r f : Nat) {m : xm} {v : Int}, (r : Int) ≤ bd (nN G) + 1 → r < f → RH m G → NR m G s0 → bst (PX G s0 g) v (bd (nN G) + 1 - (r : Int)) → ∃ x m', r_forbid_23 f g v (bd (nN G) + 1 - (r : Int)) m = some (x, m') ∧ bst (PX G s0 g) x (bd (nN G) + 1) ∧ fE m m' ∧ NR m' G s0 := by
  have gN := w.2.1
  have bN := bd_rng gN.1 gN.2
  have esh : shl 1 (nN G) = bd (nN G) + 1 := by
    rw [shl1 gN.1 (by omega)]
    unfold bd
    omega
  intro r
  induction r with
  | zero =>
    intro f m v hr hf H N hb
    obtain ⟨f, rfl⟩ : ∃ f', f = f' + 1 := ⟨f - 1, by omega⟩
    rw [r_forbid_23, r_noteMany_ok H, bnd_some, esh, w32_id (x := bd (nN G) + 1 - ((0 : Nat) : Int)) (by omega) (by omega), if_pos (by omega)]
    rw [show bd (nN G) + 1 - ((0 : Nat) : Int) = bd (nN G) + 1 by omega] at hb
    exact ⟨v, m, rfl, hb, fun _ _ _ _ _ _ => rfl, N⟩
  | succ r ih =>
    intro f m v hr hf H N hb
    obtain ⟨f, rfl⟩ : ∃ f', f = f' + 1 := ⟨f - 1, by omega⟩
    obtain ⟨k, hk⟩ : ∃ k, bd (nN G) + 1 - ((r + 1 : Nat) : Int) = k := ⟨_, rfl⟩
    rw [hk] at hb ⊢
    have bk := bc_rng (j := k)
    have bv := bc_rng (j := v)
    have hv' : v = -1 ∨ (0 ≤ v ∧ v < k) := by
      rcases hb with z | z
      · exact Or.inl z.1
      · exact Or.inr ⟨z.1, z.2.1⟩
    have e65 : ∀ u m1, r_forbid_65 (fun v1 v2 v3 m => r_forbid_23 f v1 v2 v3 m) g u k m1 = r_forbid_23 f g u (bd (nN G) + 1 - (r : Int)) m1 := fun u m1 => by
      unfold r_forbid_65
      rw [show k + 1 = bd (nN G) + 1 - (r : Int) by omega]
    have ek : bd (nN G) + 1 - (r : Int) = k + 1 := by omega
    have stay : (PX G s0 g k = true → v ≠ -1 ∧ bc v ≤ bc k) → bst (PX G s0 g) v (bd (nN G) + 1 - (r : Int)) := by
      intro hp
      rw [ek]
      rcases hb with ⟨b1, b2⟩ | ⟨b1, b2, b3, b4⟩
      · refine Or.inl ⟨b1, fun y z1 z2 => ?_⟩
        by_cases e : y = k
        · rw [e]
          exact Bool.eq_false_iff.mpr (fun z => (hp z).1 b1)
        · exact b2 y z1 (by omega)
      · refine Or.inr ⟨b1, by omega, b3, fun y z1 z2 z3 => ?_⟩
        by_cases e : y = k
        · rw [e] at z3 ⊢
          have := (hp z3).2
          omega
        · exact b4 y z1 (by omega) z3
    have s52 : (v = -1 ∨ bc k < bc v) → ∃ x m', r_forbid_52 (fun v1 v2 v3 m => r_forbid_23 f v1 v2 v3 m) g v k m = some (x, m') ∧ bst (PX G s0 g) x (bd (nN G) + 1) ∧ fE m m' ∧ NR m' G s0 := by
      intro hc
      obtain ⟨m1, a1, a2, a3, a4, a5⟩ := r_seeks_ok w (s0 := s0) (A := aXs G k) (X := k) (k := 1) (g := g) (So := Sk G 2 g) hv (by omega) (by omega) (fun y z1 z2 => ax_bt w (by omega) (by omega) z1 z2) (there1 w hD hg0 hg1) H N
      have a5' : okQ G s0 (sq G s0 g k).2 := a5
      have fm := fst1_m w a5'
      have H1 := fE_RH a2 H
      unfold r_forbid_52
      rw [show r_seeks k 1 g m = some (fst1 (sq G s0 g k), m1) from a1, bnd_some, e65, e65]
      by_cases hp : PX G s0 g k = true
      · rw [if_pos (fm.mpr hp)]
        obtain ⟨x, m2, d1, d2, d3, d4⟩ := ih f (m := m1) (v := k) (by omega) (by omega) H1 a3 (by
          rw [ek]
          refine Or.inr ⟨by omega, by omega, hp, fun y z1 z2 z3 => ?_⟩
          by_cases e : y = k
          · rw [e]; omega
          · rcases hb with ⟨b1, b2⟩ | ⟨b1, b2, b3, b4⟩
            · rw [b2 y z1 (by omega)] at z3
              exact absurd z3 (by decide)
            · have := b4 y z1 (by omega) z3
              rcases hc with hc | hc
              · omega
              · omega)
        exact ⟨x, m2, d1, d2, fE_trans a2 d3, d4⟩
      · rw [if_neg (fun z => hp (fm.mp z))]
        obtain ⟨x, m2, d1, d2, d3, d4⟩ := ih f (m := m1) (v := v) (by omega) (by omega) H1 a3 (stay (fun z => absurd z hp))
        exact ⟨x, m2, d1, d2, fE_trans a2 d3, d4⟩
    rw [r_forbid_23, r_noteMany_ok H, bnd_some, esh, w32_id (x := k) (by omega) (by omega), if_neg (by omega), w32_id (x := v) (by omega) (by omega)]
    by_cases e : v = -1
    · rw [if_pos e]
      exact s52 (Or.inl e)
    · rw [if_neg e, r_bits_ok (by omega) (by omega), bnd_some, r_bits_ok (by omega) (by omega), bnd_some, w32_id (x := bc k) (by omega) (by omega), w32_id (x := bc v) (by omega) (by omega)]
      by_cases l : bc k < bc v
      · rw [if_pos l]
        exact s52 (Or.inr l)
      · rw [if_neg l, e65]
        exact ih f (by omega) (by omega) H N (stay (fun _ => ⟨e, by omega⟩))
theorem ok_forbid {g : Int} (hg : rg g) : okI (cL_forbid g) (r_forbid g) := by
  intro m hi
  obtain ⟨G, H⟩ := hi
  have H0 : IG m G := H
  obtain ⟨⟨w, hD, -, c, M, r, -⟩, S0, -⟩ := H0
  obtain ⟨h, hh⟩ : ∃ h, hl m 12 = h := ⟨_, rfl⟩
  have p := hl_or m 12
  rw [hh] at p c M
  have pr := isH_rng p
  have gN := w.2.1
  have gD := bd_rng w.2.2.1.1 w.2.2.1.2
  have bN := bd_rng gN.1 gN.2
  have vS := S0.1
  have N0 := SN_NR S0
  by_cases dg : 0 ≤ g ∧ g ≤ bd (nD G)
  · obtain ⟨m1, b1, b2, b3⟩ := cH_openDoors_ok p w hD vS c M
    have hh1 : hl m1 12 = h := by rw [hl_cg (by rw [fo_out p b2 (by decide)]), hh]
    have c1 := fo_CH b2 c
    have frR : ∀ a, 78 ≤ a → m1 a = m a := fun a z => fo_out p b2 (Or.inr z)
    have hd : cL_forbid g m = if ban (od G (ld m 22 0)) g = g then some (-1, m1) else cL_forbid_55 xLF (bd (nN G)) 0 0 (st (st m1 11 5 2) 11 6 g) := by
      unfold cL_forbid cS_seekDoors
      rw [hh, cH_areDoors_ok p w c, bnd_some, w32_rg hg, if_pos dg, if_neg (by decide), cY_state_ok, bnd_some, hh, b1, bnd_some, hh1, cH_bitsOfAll_ok p c1 (by decide) (by decide) gN.1 gN.2, bnd_some, stf_eq, stf_eq, bnd_some]
      rfl
    by_cases e : ban (od G (ld m 22 0)) g = g
    · have r1 : RH m1 G := RH_cg r (fun a k g1 _ _ => ld_cg (frR a (by omega)) k)
      have n1 : NR m1 G (ld m 22 0) := NR_cg N0 (fun k => ld_cg (frR 110 (by decide)) k)
      obtain ⟨m2, d1, d2⟩ := there1 w hD dg.1 (by omega) m1 _ r1 n1 vS
      have sk : Sk G 2 g (ld m 22 0) = true := by
        unfold Sk
        rw [if_neg (by decide), if_pos rfl]
        exact decide_eq_true e
      refine ⟨-1, m1, -1, m2, by rw [hd, if_pos e], ?_, rfl, ⟨G, ?_⟩⟩
      · unfold r_forbid
        rw [r_areDoors_ok w r1, bnd_some, w32_rg hg, if_pos dg, if_neg (by decide), d1, bnd_some, if_pos sk, if_neg (by decide)]
      · exact IG_sr hh H (fun a k _ z2 z3 z4 => b2 a k z2 z3 z4) b3 (fq_fE d2) (fq_NR d2 n1)
    · obtain ⟨mB, hB⟩ : ∃ mB, mB = st (st m1 11 5 2) 11 6 g := ⟨_, rfl⟩
      have eB : ∀ a j, ¬ (a = 11 ∧ (j = 5 ∨ j = 6)) → mB a j = m1 a j := fun a j z => by rw [hB, st_at (by omega), st_at (by omega)]
      have X : FX mB h G (ld m 22 0) g := ⟨by rw [hl_cg (eB 0 12 (by decide)), hh1], CH_cg c1 (fun a j z => ldq (eB a j (by rcases z with rfl | ⟨z1, z2⟩ | ⟨rfl, z⟩ <;> omega))), by rw [ldq (eB 22 0 (by decide)), ld_cg (fo_out p b2 (by decide))], by rw [hB, ld_st_ne (by decide), ld_st_eq]; rfl, by rw [hB, ld_st_eq, w32_rg hg]⟩
      obtain ⟨x, mC, a1, a2, a3, a4⟩ := forbid_out p w hD vS 7 xLF (m := mB) (v := 0) (by omega) (by rw [xLF_eq]; omega) X (CM_cg b3 (fun j => eB _ j (by omega))) (fun y _ yt => by rw [lbt_0] at yt; exact absurd yt (by decide)) (fun y z1 z2 z3 => by have := bc_rng (j := y); omega)
      have f1 : ∀ a j, ¬ scr a j → ¬ (a = h + 1 ∧ j = 3) → a ≠ h + 3 → a ≠ h + 14 → mC a j = m a j := fun a j z1 z2 z3 z4 => by
        unfold scr at z1
        rw [a2 a j (by unfold fCQ; omega) z2 z3 z4, eB a j (by omega), b2 a j z2 z3 z4]
      have rC : RH mC G := RH_cg r (fun a j z1 z2 _ => ldq (f1 a j (by unfold scr; omega) (by omega) (by omega) (by omega)))
      have nC : NR mC G (ld m 22 0) := NR_cg N0 (fun j => ldq (f1 110 j (by unfold scr; omega) (by omega) (by omega) (by omega)))
      obtain ⟨m2, d1, d2⟩ := there1 w hD dg.1 (by omega) mC _ rC nC vS
      have sk : ¬ (Sk G 2 g (ld m 22 0) = true) := by
        unfold Sk
        rw [if_neg (by decide), if_pos rfl]
        simpa using e
      obtain ⟨y, mD, k1, k2, k3, k4⟩ := r_forbid_loop w hD vS dg.1 (by omega) (bd (nN G) + 1).toNat xLF (m := m2) (v := -1) (by omega) (by rw [xLF_eq]; omega) (fq_RH d2 rC) (fq_NR d2 nC) (Or.inl ⟨rfl, fun y z1 z2 => by omega⟩)
      rw [show bd (nN G) + 1 - ((bd (nN G) + 1).toNat : Int) = 0 by omega] at k1
      obtain rfl := bst_uq a4 k2
      refine ⟨x, mC, x, mD, ?_, ?_, rfl, ⟨G, ?_⟩⟩
      · rw [hd, if_neg e, ← hB]
        exact a1
      · unfold r_forbid
        rw [r_areDoors_ok w rC, bnd_some, w32_rg hg, if_pos dg, if_neg (by decide), d1, bnd_some, if_neg sk, if_pos (by decide)]
        exact k1
      · exact IG_sr hh H f1 a3 (fE_trans (fq_fE d2) k3) k4
  · refine ⟨-1, m, -1, m, ?_, ?_, rfl, ⟨G, H⟩⟩
    · unfold cL_forbid
      rw [hh, cH_areDoors_ok p w c, bnd_some, w32_rg hg, if_neg dg, if_pos (by decide)]
    · unfold r_forbid
      rw [r_areDoors_ok w r, bnd_some, w32_rg hg, if_neg dg, if_pos (by decide)]
