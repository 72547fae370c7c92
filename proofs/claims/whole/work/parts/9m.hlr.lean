/-! the hall: the program's empty one; the reference's reading, what stands then -/
def G00 : hv := fun _ _ => 0
theorem GI_00 : GI G00 0 := by
  refine ⟨⟨⟨by decide, by decide, fun l a b => ?_⟩, by decide, by decide, by decide, by decide, fun l a b => ?_, fun n l _ _ _ _ => ⟨Int.le_refl _, (by unfold tT G00; decide), fun _ => rfl⟩, fun y => y, fun p _ _ => ⟨Int.le_refl _, by unfold G00; decide⟩⟩, fun d a b => ?_, fun d a b => ?_, by decide, fun _ _ _ => rfl⟩
  · exact absurd b (by unfold nL G00; omega)
  · exact absurd b (by unfold nL G00; omega)
  · exact absurd b (by unfold nD G00; omega)
  · exact absurd b (by unfold nD G00; omega)
theorem fillA {a : Nat} {N : Int} (hN : aln a = N) (h2 : N ≤ 10000) : ∀ (r : Nat) {f : Nat} {k : Int} {m : xm}, k + (r : Int) = N → 0 ≤ k → r < f → ∃ m', j_fill_5 a f 0 k N m = some (0, m') ∧ (∀ i, k ≤ i → i < N → ld m' a i = 0) ∧ ∀ b j, ¬ (b = a ∧ k ≤ j ∧ j < N) → m' b j = m b j
  | 0, f, k, m, hk, h0, hf => by
    obtain ⟨f, rfl⟩ : ∃ f', f = f' + 1 := ⟨f - 1, by omega⟩
    rw [j_fill_5, w32_id (by omega) (by omega), w32_id (by omega) (by omega), if_pos (by omega)]
    exact ⟨m, rfl, fun i a b => by omega, fun _ _ _ => rfl⟩
  | r + 1, f, k, m, hk, h0, hf => by
    obtain ⟨f, rfl⟩ : ∃ f', f = f' + 1 := ⟨f - 1, by omega⟩
    obtain ⟨m', a1, a2, a3⟩ := fillA hN h2 r (f := f) (k := k + 1) (m := st m a k 0) (by omega) (by omega) (by omega)
    rw [j_fill_5, w32_id (by omega) (by omega), w32_id (by omega) (by omega), if_neg (by omega), ias_in h0 (by omega), a1]
    refine ⟨m', rfl, fun i x1 x2 => ?_, fun b j x => by rw [a3 b j (by omega), st_at (by omega)]⟩
    by_cases y : i = k
    · rw [y, ldq (a3 a k (by omega)), ld_st_eq]; rfl
    · exact a2 i (by omega) x2
theorem fillB {a : Nat} {N : Int} {m : xm} (hN : aln a = N) (h0 : 0 ≤ N) (h2 : N ≤ 10000) : ∃ m', j_fill a 0 m = some (0, m') ∧ (∀ i, 0 ≤ i → i < N → ld m' a i = 0) ∧ ∀ b j, b ≠ a → m' b j = m b j := by
  obtain ⟨m', a1, a2, a3⟩ := fillA hN h2 N.toNat (f := xLF) (k := 0) (m := m) (by omega) (by decide) (by rw [xLF_eq]; omega)
  unfold j_fill
  rw [xlt_eq, hN]
  exact ⟨m', a1, a2, fun b j x => a3 b j (fun y => x y.1)⟩
theorem cH_clear_S {h : Nat} {m : xm} (p : isH h) : ∃ m', cH_clear h m = some (0, m') ∧ HC m' h G00 0 ∧ (∀ i, 0 ≤ i → i < 2500 → ld m' (h + 14) i = 0) ∧ ∀ a k, ¬ (h ≤ a ∧ a ≤ h + 14) → m' a k = m a k := by
  have al := alnH p
  obtain ⟨m1, a1, a2, a3⟩ := fillB (a := h + 4) (N := 4) (m := st m (h + 1) 2 0) (by omega) (by decide) (by decide)
  obtain ⟨m2, b1, b2, b3⟩ := fillB (a := h + 9) (N := 24) (m := m1) (by omega) (by decide) (by decide)
  obtain ⟨m3, c1, c2, c3⟩ := fillB (a := h + 10) (N := 6) (m := m2) (by omega) (by decide) (by decide)
  obtain ⟨m4, d1, d2, d3⟩ := fillB (a := h + 11) (N := 5) (m := m3) (by omega) (by decide) (by decide)
  obtain ⟨m5, e1, e2, e3⟩ := fillB (a := h + 14) (N := 2500) (m := m4) (by omega) (by decide) (by decide)
  unfold cH_clear cC_clear
  rw [stf_eq, bnd_some, a1, bnd_some, b1, bnd_some, c1, bnd_some, d1, bnd_some, e1, bnd_some, stf_eq, stf_eq, stf_eq]
  refine ⟨_, rfl, ⟨⟨fun k x1 x2 => ?_, ?_, ?_, ?_, fun l x1 x2 => ?_, fun n l x1 x2 x3 x4 => ?_, fun n x1 x2 => ?_, fun q x1 x2 => ?_, fun d x1 x2 => ?_, fun d k x1 x2 => ?_, fun t i x1 x2 x3 x4 => ?_⟩, ?_⟩, fun i x1 x2 => ?_, fun a k x => ?_⟩
  · rw [ld_st_nc (by omega), ld_st_nc (by omega), ld_st_nc (by omega), ldq (e3 (h + 4) k (by omega)), ldq (d3 (h + 4) k (by omega)), ldq (c3 (h + 4) k (by omega)), ldq (b3 (h + 4) k (by omega)), a2 k x1 x2]; rfl
  · rw [ld_st_eq]; rfl
  · rw [ld_st_ne (by decide), ld_st_ne (by decide), ld_st_eq]; rfl
  · rw [ld_st_ne (by decide), ld_st_eq]; rfl
  · exact absurd x2 (by unfold nL G00; omega)
  · rw [ld_st_nc (by omega), ld_st_nc (by omega), ld_st_nc (by omega), ldq (e3 (h + 9) _ (by omega)), ldq (d3 (h + 9) _ (by omega)), ldq (c3 (h + 9) _ (by omega)), b2 _ (by omega) (by omega)]; rfl
  · rw [ld_st_nc (by omega), ld_st_nc (by omega), ld_st_nc (by omega), ldq (e3 (h + 10) n (by omega)), ldq (d3 (h + 10) n (by omega)), c2 n x1 x2]; rfl
  · rw [ld_st_nc (by omega), ld_st_nc (by omega), ld_st_nc (by omega), ldq (e3 (h + 11) q (by omega)), d2 q x1 x2]; rfl
  · exact absurd x2 (by unfold nD G00; omega)
  · exact absurd x2 (by unfold nD G00; omega)
  · exact absurd x4 (by unfold G00; omega)
  · rw [ld_st_nc (by omega), ld_st_nc (by omega), ld_st_nc (by omega), ldq (e3 (h + 1) 2 (by omega)), ldq (d3 (h + 1) 2 (by omega)), ldq (c3 (h + 1) 2 (by omega)), ldq (b3 (h + 1) 2 (by omega)), ldq (a3 (h + 1) 2 (by omega)), ld_st_eq]; rfl
  · rw [ld_st_nc (by omega), ld_st_nc (by omega), ld_st_nc (by omega), e2 i x1 x2]
  · rw [st_at (by omega), st_at (by omega), st_at (by omega), e3 a k (by omega), d3 a k (by omega), c3 a k (by omega), b3 a k (by omega), a3 a k (by omega), st_at (by omega)]
theorem usr0 : ∀ b : Nat, b < 4 → ban (usr 0 (8 * (b : Int))) 255 = 0 := by decide +kernel
theorem CM_0 {h : Nat} {m : xm} {G : hv} (wf : wfS G) (e : ∀ i, 0 ≤ i → i < 2500 → ld m (h + 14) i = 0) : CM m h G := by
  intro s hv
  left
  have g := vs_s wf hv
  unfold mby
  rw [e (s / 4) (by omega) (by omega)]
  have := usr0 (s % 4).toNat (by omega)
  rw [show (((s % 4).toNat : Nat) : Int) = s % 4 by omega] at this
  exact this
/-- what the hall's reading touches: what a statement touches, and its count -/
def FHt (m m' : xm) : Prop := ∀ a k, ¬ (a = 78 ∧ k = 41) → ¬ (a = 78 ∧ (2 ≤ k ∧ k ≤ 6 ∨ k = 30 ∨ k = 40 ∨ k = 42 ∨ k = 84 ∨ k = 86 ∨ k = 87 ∨ k = 88) ∨ a = 101 ∧ k < 4 ∨ a = 102 ∧ k < 24 ∨ a = 103 ∧ k < 12 ∨ a = 104 ∧ k < 24 ∨ a = 105 ∧ k < 5 ∨ a = 106 ∧ k < 1 ∨ a = 107 ∧ k < 6 ∨ a = 108 ∧ k < 6 ∨ a = 109 ∧ k < 1600 ∨ a = 138 ∨ a = 139) → m' a k = m a k
theorem FHt_r {m m' : xm} (f : FHr m m') : FHt m m' := fun a k _ y => f a k (by omega) (by omega) (by omega) (by omega) (by omega) (by omega) (by omega) (by omega) (by omega) (by omega) (by omega) (by omega)
theorem FHt_trans {m m' m'' : xm} (f : FHt m m') (g : FHt m' m'') : FHt m m'' := fun a k x y => by rw [g a k x y, f a k x y]
section HLR
variable {B : Int → Int} {n : Int} {s : Int × Int} {m m0 : xm} {G : hv} {z : Int}
theorem hall_B {g : Nat} {k q : Int} (F : RB m k q) : r_hall_70 (g + 1) m = r_hall_92 m := by
  rw [r_hall_70, if_neg (by rw [F.2.1]; exact F.1)]
theorem hallR_loop : ∀ (f : Nat) {c : Int} {G : hv} {z : Int} {s : Int × Int} {g : Nat} {m : xm}, RS m B n s → RHp m G z → GI G z → z ≤ s.1 → ld m 78 41 = c → 0 ≤ c → c ≤ 60 → (60 - c).toNat < f → (60 - c).toNat + 2 < g →
    (∀ G' z' c', sHl B n f c G z s = .inr (G', z', c') → ∃ m', r_hall_70 g m = r_hall_92 m' ∧ ld m' 78 5 = 0 ∧ ld m' 78 6 = -1 ∧ ld m' 78 41 = c' ∧ RHp m' G' z' ∧ FHt m m') ∧ (∀ k q, sHl B n f c G z s = .inl (k, q) → ∃ m', r_hall_70 g m = r_hall_92 m' ∧ RB m' k q ∧ FHt m m')
  | 0, _, _, _, _, _, _, _, _, _, _, _, _, _, hf, _ => by omega
  | f + 1, c, G, z, s, g, m, S, R, I, hz, h41, hc0, hc, hf, hg => by
    obtain ⟨g, rfl⟩ : ∃ g', g = g' + 1 := ⟨g - 1, by omega⟩
    have ok := S.2.1
    have T := RT_TB S.1
    obtain ⟨m1, a1, a2, a3, a4⟩ := r_look_S S
    have sg := see_ge T (q := tq B n s) (by have := tq_rng (B := B) ok; have := ok.1; omega)
    have tr := tq_rng (B := B) ok
    have t0 := tkd_0 T ok
    have f1 : FHt m m1 := FHt_r (FHr_FN (FN_FR a4))
    have R1 := RHp_FN R (FN_FR a4)
    have e41 : ld m1 78 41 = c := by rw [ldq (a4 78 41 (by omega)), h41]
    rw [r_hall_70, if_pos S.2.2.1, a1, bnd_some, w32_rg (see_rg T ok)]
    unfold sHl
    by_cases k0 : tkd B n s = 0
    · rw [if_pos k0, if_pos (sg.2.2.mpr (by rw [t0.mp k0]; exact Int.le_refl _))]
      exact ⟨fun G' z' c' y => (by cases y; exact ⟨m1, rfl, a2.2.2.1, a2.2.2.2.1, e41, R1, f1⟩), fun k q y => by cases y⟩
    · have ns : ¬ (see B n (tq B n s) = -1) := fun y => k0 (t0.mpr (by have := sg.2.2.mp y; omega))
      rw [if_neg k0, if_neg ns]
      unfold r_statementTold
      rw [e41]
      by_cases c60 : c = 60
      · obtain ⟨m2, b1, b2, b3⟩ := r_failAt (k := 5) a2 a3 (by decide) (by decide) (by decide)
        obtain ⟨g, rfl⟩ : ∃ g', g = g' + 1 := ⟨g - 1, by omega⟩
        rw [if_pos c60, if_pos c60, b1, bnd_some, bnd_some, hall_B b2]
        exact ⟨fun G' z' c' y => (by cases y), fun k q y => by cases y; exact ⟨m2, rfl, b2, FHt_trans f1 (FHt_r (FHr_FN (FN_FR b3)))⟩⟩
      · rw [if_neg c60, if_neg c60]
        have body : ∃ (X : xr) (m2 : xm), HRr B n m2 (sBody B n G z s) X ∧ FN m1 m2 ∧ (bnd (r_takes 81 m1) fun r1 m2 => if w32 r1 = 0 then bnd (r_takes 85 m2) fun r3 m4 => if w32 r3 = 0 then bnd (r_takes 87 m4) fun r5 m6 => if w32 r5 = 0 then bnd (r_takes 89 m6) fun r7 m8 => if w32 r7 = 0 then bnd (r_asks 91 m8) fun r9 m10 => bnd (r_number 0 100 m10) fun r11 m12 => ias m12 106 0 r11 fun m13 => r_statementTold_118 m13 else bnd (r_playerTold (ld m1 78 2) m8) fun r14 m15 => r_statementTold_118 m15 else bnd (r_doorTold (ld m1 78 2) m6) fun r16 m17 => r_statementTold_118 m17 else bnd (r_noteTold (ld m1 78 2) m4) fun r18 m19 => r_statementTold_118 m19 else bnd (r_lockTold (ld m1 78 2) m2) fun r20 m21 => r_statementTold_118 m21) = bnd X (fun _ m => r_statementTold_118 m) := by
          rw [a3]
          unfold sBody
          have h := r_takes_S (a := 81) (by unfold isD; decide) a2
          rw [show rlit 81 = lit 0 from rfl] at h
          by_cases w0 : isW B n (lit 0) s = true
          · obtain ⟨m2, b1, b2, b3⟩ := h.1 w0
            rw [if_pos w0, b1, bnd_some, if_neg (by decide)]
            exact ⟨_, m2, lockTold_S b2 ok I (RHp_FN R1 (FN_FR b3)), FN_FR b3, rfl⟩
          obtain ⟨m2, b1, b2, -, b4⟩ := h.2 (by simpa using w0)
          rw [if_neg w0, b1, bnd_some, if_pos (show w32 0 = 0 by rfl)]
          have h := r_takes_S (a := 85) (by unfold isD; decide) b2
          rw [show rlit 85 = lit 5 from rfl] at h
          by_cases w5 : isW B n (lit 5) s = true
          · obtain ⟨m3, d1, d2, d3⟩ := h.1 w5
            have F := FN_FR (FR_trans b4 d3)
            rw [if_pos w5, d1, bnd_some, if_neg (by decide)]
            exact ⟨_, m3, noteTold_S d2 ok I (RHp_FN R1 F), F, rfl⟩
          obtain ⟨m3, d1, d2, -, d4⟩ := h.2 (by simpa using w5)
          rw [if_neg w5, d1, bnd_some, if_pos (show w32 0 = 0 by rfl)]
          have h := r_takes_S (a := 87) (by unfold isD; decide) d2
          rw [show rlit 87 = lit 7 from rfl] at h
          by_cases w7 : isW B n (lit 7) s = true
          · obtain ⟨m4, e1, e2, e3⟩ := h.1 w7
            have F := FN_FR (FR_trans b4 (FR_trans d4 e3))
            rw [if_pos w7, e1, bnd_some, if_neg (by decide)]
            exact ⟨_, m4, doorTold_S e2 ok I (RHp_FN R1 F) hz, F, rfl⟩
          obtain ⟨m4, e1, e2, -, e4⟩ := h.2 (by simpa using w7)
          rw [if_neg w7, e1, bnd_some, if_pos (show w32 0 = 0 by rfl)]
          have h := r_takes_S (a := 89) (by unfold isD; decide) e2
          rw [show rlit 89 = lit 22 from rfl] at h
          by_cases w22 : isW B n (lit 22) s = true
          · obtain ⟨m5, g1, g2, g3⟩ := h.1 w22
            have F := FN_FR (FR_trans b4 (FR_trans d4 (FR_trans e4 g3)))
            rw [if_pos w22, g1, bnd_some, if_neg (by decide)]
            exact ⟨_, m5, playerTold_S g2 ok I (RHp_FN R1 F), F, rfl⟩
          obtain ⟨m5, g1, g2, -, g4⟩ := h.2 (by simpa using w22)
          have F := FN_FR (FR_trans b4 (FR_trans d4 (FR_trans e4 g4)))
          rw [if_neg w22, g1, bnd_some, if_pos (show w32 0 = 0 by rfl)]
          refine ⟨_, m5, rustTold_S g2 I (RHp_FN R1 F), F, ?_⟩
          rw [bnd_bnd]
          congr 1
          funext x m'
          rw [bnd_bnd]
          congr 1
        obtain ⟨X, m2, hX, fX, eX⟩ := body
        have bo := sBody_ok T ok I hz
        have f2 := FHt_trans f1 (FHt_r (FHr_FN fX))
        rw [eX]
        cases es : sBody B n G z s with
        | inl x =>
          obtain ⟨k, q⟩ := x
          obtain ⟨m3, b1, b2, b3⟩ := hX.2 k q es
          obtain ⟨g, rfl⟩ : ∃ g', g = g' + 1 := ⟨g - 1, by omega⟩
          have F : RB (st m3 78 41 (ld m3 78 41 + 1)) k q := ⟨b2.1, by rw [ld_st_ne (by decide)]; exact b2.2.1, by rw [ld_st_ne (by decide)]; exact b2.2.2⟩
          unfold r_statementTold_118
          rw [b1, bnd_some, r_asksSign_B b2, bnd_some, stf_eq, bnd_some, hall_B F]
          exact ⟨fun G' z' c' y => (by cases y), fun k q y => by cases y; exact ⟨_, rfl, F, FHt_trans f2 (FHt_trans (FHt_r b3) (fun a k x1 _ => st_at (by omega)))⟩⟩
        | inr x =>
          obtain ⟨G1, z1, s1⟩ := x
          obtain ⟨m3, b1, b2, b3, b4⟩ := hX.1 G1 z1 s1 es
          obtain ⟨I1, hz1, o1, gs⟩ := bo G1 z1 s1 es
          have hS := r_asksSign_S (c := 59) ⟨by decide, by decide, rfl, rfl⟩ b2
          have e3 : ld m3 78 41 = c := by
            rw [ldq (b4 78 41 (by omega) (by omega) (by omega) (by omega) (by omega) (by omega) (by omega) (by omega) (by omega) (by omega) (by decide) (by decide)), ldq (fX 78 41 (by omega)), e41]
          unfold r_statementTold_118 smb
          rw [b1, bnd_some]
          dsimp only
          by_cases g59 : isG B n 59 s1 = true
          · obtain ⟨m4, d1, d2, d3⟩ := hS.1 g59
            have e4 : ld m4 78 41 = c := by rw [ldq (d3 78 41 (by omega)), e3]
            have gt := isG_gt o1 g59
            have ih := hallR_loop f (c := c + 1) (G := G1) (z := z1) (s := nx B n s1) (g := g) (m := st m4 78 41 (c + 1)) (RS_cg d2 (fun a k x => st_at (by omega))) (RHp_cg (RHp_FN b3 (FN_FR d3)) (fun a k x => st_at (by omega))) I1 (by omega) (by rw [ld_st_eq, w32_id (by omega) (by omega)]) (by omega) (by omega) (by omega) (by omega)
            have f4 : FHt m (st m4 78 41 (c + 1)) := FHt_trans f2 (FHt_trans (FHt_r b4) (FHt_trans (FHt_r (FHr_FN (FN_FR d3))) (fun a k x1 _ => st_at (by omega))))
            rw [if_pos g59, d1, bnd_some, stf_eq, bnd_some, e4]
            constructor
            · intro G' z' c' y
              obtain ⟨m5, k1, k2, k3, k4, k5, k6⟩ := ih.1 G' z' c' y
              exact ⟨m5, k1, k2, k3, k4, k5, FHt_trans f4 k6⟩
            · intro k q y
              obtain ⟨m5, k1, k2, k3⟩ := ih.2 k q y
              exact ⟨m5, k1, k2, FHt_trans f4 k3⟩
          · obtain ⟨m4, d1, d2, d3⟩ := hS.2 (by simpa using g59)
            obtain ⟨g, rfl⟩ : ∃ g', g = g' + 1 := ⟨g - 1, by omega⟩
            have F : RB (st m4 78 41 (ld m4 78 41 + 1)) 1 (tq B n s1) := ⟨d2.1, by rw [ld_st_ne (by decide)]; exact d2.2.1, by rw [ld_st_ne (by decide)]; exact d2.2.2⟩
            rw [if_neg g59, d1, bnd_some, stf_eq, bnd_some, hall_B F]
            exact ⟨fun G' z' c' y => (by cases y), fun k q y => by cases y; exact ⟨_, rfl, F, FHt_trans f2 (FHt_trans (FHt_r b4) (FHt_trans (FHt_r (FHr_FN (FN_FR d3))) (fun a k x1 _ => st_at (by omega))))⟩⟩
end HLR
