/-! what was read becomes what stands -/
theorem cpA : ∀ (r : Nat) {f : Nat} {k : Int} {m : xm}, k + (r : Int) = 4 → 0 ≤ k → r < f → ∃ m', r_stands_2 f k m = r_stands_27 m' ∧ (∀ i, k ≤ i → i < 4 → ld m' 101 (4 + i) = ld m 101 i) ∧ ∀ b j, ¬ (b = 101 ∧ 4 + k ≤ j ∧ j < 8) → m' b j = m b j
  | 0, f, k, m, hk, h0, hf => by
    obtain ⟨f, rfl⟩ : ∃ f', f = f' + 1 := ⟨f - 1, by omega⟩
    rw [r_stands_2, w32_id (by omega) (by omega), if_pos (by omega)]
    exact ⟨m, rfl, fun i a b => by omega, fun _ _ _ => rfl⟩
  | r + 1, f, k, m, hk, h0, hf => by
    obtain ⟨f, rfl⟩ : ∃ f', f = f' + 1 := ⟨f - 1, by omega⟩
    obtain ⟨m', a1, a2, a3⟩ := cpA r (f := f) (k := k + 1) (m := st m 101 (4 + k) (ld m 101 k)) (by omega) (by omega) (by omega)
    rw [r_stands_2, w32_id (by omega) (by omega), if_neg (by omega), ial_in h0 (by rw [al101]; omega), ias_in (by omega) (by rw [al101]; omega), a1]
    refine ⟨m', rfl, fun i x1 x2 => ?_, fun b j x => by rw [a3 b j (by omega), st_at (by omega)]⟩
    by_cases y : i = k
    · rw [y, ldq (a3 101 (4 + k) (by omega)), ld_st_eq, w32_ld]
    · rw [a2 i (by omega) x2, ld_st_ne (by omega)]
theorem cpB : ∀ (r : Nat) {f : Nat} {k : Int} {m : xm}, k + (r : Int) = 24 → 0 ≤ k → r < f → ∃ m', r_stands_29 f k m = r_stands_56 m' ∧ (∀ i, k ≤ i → i < 24 → ldl m' 102 (24 + i) = ldl m 102 i) ∧ ∀ b j, ¬ (b = 102 ∧ 24 + k ≤ j ∧ j < 48) → m' b j = m b j
  | 0, f, k, m, hk, h0, hf => by
    obtain ⟨f, rfl⟩ : ∃ f', f = f' + 1 := ⟨f - 1, by omega⟩
    rw [r_stands_29, w32_id (by omega) (by omega), if_pos (by omega)]
    exact ⟨m, rfl, fun i a b => by omega, fun _ _ _ => rfl⟩
  | r + 1, f, k, m, hk, h0, hf => by
    obtain ⟨f, rfl⟩ : ∃ f', f = f' + 1 := ⟨f - 1, by omega⟩
    obtain ⟨m', a1, a2, a3⟩ := cpB r (f := f) (k := k + 1) (m := st m 102 (24 + k) (ldl m 102 k)) (by omega) (by omega) (by omega)
    rw [r_stands_29, w32_id (by omega) (by omega), if_neg (by omega), lal_in h0 (by rw [al102]; omega), ias_in (by omega) (by rw [al102]; omega), a1]
    refine ⟨m', rfl, fun i x1 x2 => ?_, fun b j x => by rw [a3 b j (by omega), st_at (by omega)]⟩
    by_cases y : i = k
    · rw [y, ldlq (a3 102 (24 + k) (by omega)), ldl_st_eq, w64_ldl]
    · rw [a2 i (by omega) x2, ldl_st_ne (by omega)]
theorem cpC : ∀ (r : Nat) {f : Nat} {k : Int} {m : xm}, k + (r : Int) = 12 → 0 ≤ k → r < f → ∃ m', r_stands_58 f k m = r_stands_85 m' ∧ (∀ i, k ≤ i → i < 12 → ld m' 103 (12 + i) = ld m 103 i) ∧ ∀ b j, ¬ (b = 103 ∧ 12 + k ≤ j ∧ j < 24) → m' b j = m b j
  | 0, f, k, m, hk, h0, hf => by
    obtain ⟨f, rfl⟩ : ∃ f', f = f' + 1 := ⟨f - 1, by omega⟩
    rw [r_stands_58, w32_id (by omega) (by omega), if_pos (by omega)]
    exact ⟨m, rfl, fun i a b => by omega, fun _ _ _ => rfl⟩
  | r + 1, f, k, m, hk, h0, hf => by
    obtain ⟨f, rfl⟩ : ∃ f', f = f' + 1 := ⟨f - 1, by omega⟩
    obtain ⟨m', a1, a2, a3⟩ := cpC r (f := f) (k := k + 1) (m := st m 103 (12 + k) (ld m 103 k)) (by omega) (by omega) (by omega)
    rw [r_stands_58, w32_id (by omega) (by omega), if_neg (by omega), ial_in h0 (by rw [al103]; omega), ias_in (by omega) (by rw [al103]; omega), a1]
    refine ⟨m', rfl, fun i x1 x2 => ?_, fun b j x => by rw [a3 b j (by omega), st_at (by omega)]⟩
    by_cases y : i = k
    · rw [y, ldq (a3 103 (12 + k) (by omega)), ld_st_eq, w32_ld]
    · rw [a2 i (by omega) x2, ld_st_ne (by omega)]
theorem cpD : ∀ (r : Nat) {f : Nat} {k : Int} {m : xm}, k + (r : Int) = 24 → 0 ≤ k → r < f → ∃ m', r_stands_87 f k m = r_stands_114 m' ∧ (∀ i, k ≤ i → i < 24 → ld m' 104 (24 + i) = ld m 104 i) ∧ ∀ b j, ¬ (b = 104 ∧ 24 + k ≤ j ∧ j < 48) → m' b j = m b j
  | 0, f, k, m, hk, h0, hf => by
    obtain ⟨f, rfl⟩ : ∃ f', f = f' + 1 := ⟨f - 1, by omega⟩
    rw [r_stands_87, w32_id (by omega) (by omega), if_pos (by omega)]
    exact ⟨m, rfl, fun i a b => by omega, fun _ _ _ => rfl⟩
  | r + 1, f, k, m, hk, h0, hf => by
    obtain ⟨f, rfl⟩ : ∃ f', f = f' + 1 := ⟨f - 1, by omega⟩
    obtain ⟨m', a1, a2, a3⟩ := cpD r (f := f) (k := k + 1) (m := st m 104 (24 + k) (ld m 104 k)) (by omega) (by omega) (by omega)
    rw [r_stands_87, w32_id (by omega) (by omega), if_neg (by omega), ial_in h0 (by rw [al104]; omega), ias_in (by omega) (by rw [al104]; omega), a1]
    refine ⟨m', rfl, fun i x1 x2 => ?_, fun b j x => by rw [a3 b j (by omega), st_at (by omega)]⟩
    by_cases y : i = k
    · rw [y, ldq (a3 104 (24 + k) (by omega)), ld_st_eq, w32_ld]
    · rw [a2 i (by omega) x2, ld_st_ne (by omega)]
theorem cpE : ∀ (r : Nat) {f : Nat} {k : Int} {m : xm}, k + (r : Int) = 5 → 0 ≤ k → r < f → ∃ m', r_stands_116 f k m = r_stands_141 m' ∧ (∀ i, k ≤ i → i < 5 → ld m' 105 (5 + i) = ld m 105 i) ∧ ∀ b j, ¬ (b = 105 ∧ 5 + k ≤ j ∧ j < 10) → m' b j = m b j
  | 0, f, k, m, hk, h0, hf => by
    obtain ⟨f, rfl⟩ : ∃ f', f = f' + 1 := ⟨f - 1, by omega⟩
    rw [r_stands_116, w32_id (by omega) (by omega), if_pos (by omega)]
    exact ⟨m, rfl, fun i a b => by omega, fun _ _ _ => rfl⟩
  | r + 1, f, k, m, hk, h0, hf => by
    obtain ⟨f, rfl⟩ : ∃ f', f = f' + 1 := ⟨f - 1, by omega⟩
    obtain ⟨m', a1, a2, a3⟩ := cpE r (f := f) (k := k + 1) (m := st m 105 (5 + k) (ld m 105 k)) (by omega) (by omega) (by omega)
    rw [r_stands_116, w32_id (by omega) (by omega), if_neg (by omega), ial_in h0 (by rw [al105]; omega), ias_in (by omega) (by rw [al105]; omega), a1]
    refine ⟨m', rfl, fun i x1 x2 => ?_, fun b j x => by rw [a3 b j (by omega), st_at (by omega)]⟩
    by_cases y : i = k
    · rw [y, ldq (a3 105 (5 + k) (by omega)), ld_st_eq, w32_ld]
    · rw [a2 i (by omega) x2, ld_st_ne (by omega)]
theorem cpF : ∀ (r : Nat) {f : Nat} {k : Int} {m : xm}, k + (r : Int) = 6 → 0 ≤ k → r < f → ∃ m', r_stands_155 f k m = r_stands_197 m' ∧ (∀ i, k ≤ i → i < 6 → ld m' 107 (6 + i) = ld m 107 i ∧ ld m' 108 (6 + i) = ld m 108 i) ∧ ∀ b j, ¬ ((b = 107 ∨ b = 108) ∧ 6 + k ≤ j ∧ j < 12) → m' b j = m b j
  | 0, f, k, m, hk, h0, hf => by
    obtain ⟨f, rfl⟩ : ∃ f', f = f' + 1 := ⟨f - 1, by omega⟩
    rw [r_stands_155, w32_id (by omega) (by omega), if_pos (by omega)]
    exact ⟨m, rfl, fun i a b => by omega, fun _ _ _ => rfl⟩
  | r + 1, f, k, m, hk, h0, hf => by
    obtain ⟨f, rfl⟩ : ∃ f', f = f' + 1 := ⟨f - 1, by omega⟩
    obtain ⟨m', a1, a2, a3⟩ := cpF r (f := f) (k := k + 1) (m := st (st m 107 (6 + k) (ld m 107 k)) 108 (6 + k) (ld m 108 k)) (by omega) (by omega) (by omega)
    rw [r_stands_155, w32_id (by omega) (by omega), if_neg (by omega), ial_in h0 (by rw [al107]; omega), ias_in (by omega) (by rw [al107]; omega), ial_in h0 (by rw [al108]; omega), ias_in (by omega) (by rw [al108]; omega), ld_st_nc (by decide), a1]
    refine ⟨m', rfl, fun i x1 x2 => ?_, fun b j x => by rw [a3 b j (by omega), st_at (by omega), st_at (by omega)]⟩
    by_cases y : i = k
    · rw [y, ldq (a3 107 (6 + k) (by omega)), ldq (a3 108 (6 + k) (by omega)), ld_st_nc (by decide), ld_st_eq, w32_ld, ld_st_eq, w32_ld]
      exact ⟨rfl, rfl⟩
    · obtain ⟨b1, b2⟩ := a2 i (by omega) x2
      rw [b1, b2, ld_st_nc (by decide), ld_st_ne (by omega), ld_st_ne (by omega), ld_st_nc (by decide)]
      exact ⟨rfl, rfl⟩
theorem cpG {z : Int} (hz : z ≤ 1600) : ∀ (r : Nat) {f : Nat} {k : Int} {m : xm}, ld m 78 40 = z → k + (r : Int) = z → 0 ≤ k → r < f → ∃ m', r_stands_199 f k m = r_stands_229 m' ∧ (∀ i, k ≤ i → i < z → ld m' 109 (1600 + i) = ld m 109 i) ∧ ∀ b j, ¬ (b = 109 ∧ 1600 + k ≤ j ∧ j < 3200) → m' b j = m b j
  | 0, f, k, m, e, hk, h0, hf => by
    obtain ⟨f, rfl⟩ : ∃ f', f = f' + 1 := ⟨f - 1, by omega⟩
    rw [r_stands_199, w32_id (by omega) (by omega), if_pos (by omega)]
    exact ⟨m, rfl, fun i a b => by omega, fun _ _ _ => rfl⟩
  | r + 1, f, k, m, e, hk, h0, hf => by
    obtain ⟨f, rfl⟩ : ∃ f', f = f' + 1 := ⟨f - 1, by omega⟩
    obtain ⟨m', a1, a2, a3⟩ := cpG hz r (f := f) (k := k + 1) (m := st m 109 (1600 + k) (ld m 109 k)) (by rw [ld_st_nc (by decide)]; exact e) (by omega) (by omega) (by omega)
    rw [r_stands_199, w32_id (by omega) (by omega), if_neg (by omega), ial_in h0 (by rw [al109]; omega), ias_in (by omega) (by rw [al109]; omega), a1]
    refine ⟨m', rfl, fun i x1 x2 => ?_, fun b j x => by rw [a3 b j (by omega), st_at (by omega)]⟩
    by_cases y : i = k
    · rw [y, ldq (a3 109 (1600 + k) (by omega)), ld_st_eq, w32_ld]
    · rw [a2 i (by omega) x2, ld_st_ne (by omega)]
theorem cpH : ∀ (r : Nat) {f : Nat} {k : Int} {m : xm}, k + (r : Int) = 127 → 0 ≤ k → r < f → ∃ m', r_stands_231 f k m = r_stands_250 m' ∧ (∀ i, k ≤ i → i < 127 → ld m' 110 i = 0) ∧ ∀ b j, ¬ (b = 110 ∧ k ≤ j) → m' b j = m b j
  | 0, f, k, m, hk, h0, hf => by
    obtain ⟨f, rfl⟩ : ∃ f', f = f' + 1 := ⟨f - 1, by omega⟩
    rw [r_stands_231, w32_id (by omega) (by omega), if_pos (by omega)]
    exact ⟨m, rfl, fun i a b => by omega, fun _ _ _ => rfl⟩
  | r + 1, f, k, m, hk, h0, hf => by
    obtain ⟨f, rfl⟩ : ∃ f', f = f' + 1 := ⟨f - 1, by omega⟩
    obtain ⟨m', a1, a2, a3⟩ := cpH r (f := f) (k := k + 1) (m := st m 110 k 0) (by omega) (by omega) (by omega)
    rw [r_stands_231, w32_id (by omega) (by omega), if_neg (by omega), ias_in (by omega) (by rw [al110]; omega), a1]
    refine ⟨m', rfl, fun i x1 x2 => ?_, fun b j x => by rw [a3 b j (by omega), st_at (by omega)]⟩
    by_cases y : i = k
    · rw [y, ldq (a3 110 k (by omega)), ld_st_eq]; rfl
    · exact a2 i (by omega) x2
theorem cpI {n : Int} (hn : n ≤ 4) : ∀ (r : Nat) {f : Nat} {k : Int} {m : xm}, ld m 101 0 = n → k + (r : Int) = n → 0 ≤ k → r < f → ∃ m', r_stands_252 f k m = r_stands_286 m' ∧ (∀ i, k ≤ i → i < n → ld m' 110 (1 + i) = ld m 103 (3 * i + 1)) ∧ ∀ b j, ¬ (b = 110 ∧ 1 + k ≤ j ∧ j < 5) → m' b j = m b j
  | 0, f, k, m, e, hk, h0, hf => by
    obtain ⟨f, rfl⟩ : ∃ f', f = f' + 1 := ⟨f - 1, by omega⟩
    rw [r_stands_252, ial_in (by decide) (by decide), w32_ld, w32_id (by omega) (by omega), if_pos (by omega)]
    exact ⟨m, rfl, fun i a b => by omega, fun _ _ _ => rfl⟩
  | r + 1, f, k, m, e, hk, h0, hf => by
    obtain ⟨f, rfl⟩ : ∃ f', f = f' + 1 := ⟨f - 1, by omega⟩
    obtain ⟨m', a1, a2, a3⟩ := cpI hn r (f := f) (k := k + 1) (m := st m 110 (1 + k) (ld m 103 (3 * k + 1))) (by rw [ld_st_nc (by decide)]; exact e) (by omega) (by omega) (by omega)
    rw [r_stands_252, ial_in (by decide) (by decide), w32_id (x := k) (by omega) (by omega), w32_ld, if_neg (by omega), ial_in (by omega) (by rw [al103]; omega), ias_in (by omega) (by rw [al110]; omega), a1]
    refine ⟨m', rfl, fun i x1 x2 => ?_, fun b j x => by rw [a3 b j (by omega), st_at (by omega)]⟩
    by_cases y : i = k
    · rw [y, ldq (a3 110 (1 + k) (by omega)), ld_st_eq, w32_ld]
    · rw [a2 i (by omega) x2, ld_st_nc (by decide)]
theorem r_stands_S {m : xm} {G : hv} {z : Int} (I : GI G z) (R : RHp m G z) : ∃ m', r_stands m = some (0, m') ∧ RH m' G ∧ NM m' G ∧ (∀ l, 0 ≤ l → l < nL G → ld m' 110 (1 + l) = G 2 l) ∧ (∀ i, 0 ≤ i → i < 127 → ¬ (1 ≤ i ∧ i < 5) → ld m' 110 i = 0) ∧ ld m' 78 61 = 0 ∧ ld m' 78 58 = 0 ∧ ld m' 78 47 = 0 ∧ ld m' 78 56 = -1 ∧ ld m' 78 57 = -1 ∧ ∀ a k, ¬ (101 ≤ a ∧ a ≤ 110) → ¬ (a = 78 ∧ (k = 61 ∨ k = 58 ∨ k = 47 ∨ k = 56 ∨ k = 57)) → m' a k = m a k := by
  have z0 := I.2.2.2.1
  have wf := I.1
  have l4 := wf.1.2.1
  have l0 := wf.1.1
  have X : ∀ r : Nat, r ≤ 2000 → r < xLF := fun r h => by rw [xLF_eq]; omega
  obtain ⟨r1, r2, r3, r4, r5, r6, r7, r8, r9⟩ := R
  obtain ⟨mA, a1, a2, a3⟩ := cpA 4 (f := xLF) (k := 0) (m := m) (by decide) (by decide) (X _ (by decide))
  obtain ⟨mB, b1, b2, b3⟩ := cpB 24 (f := xLF) (k := 0) (m := mA) (by decide) (by decide) (X _ (by decide))
  obtain ⟨mC, c1, c2, c3⟩ := cpC 12 (f := xLF) (k := 0) (m := mB) (by decide) (by decide) (X _ (by decide))
  obtain ⟨mD, d1, d2, d3⟩ := cpD 24 (f := xLF) (k := 0) (m := mC) (by decide) (by decide) (X _ (by decide))
  obtain ⟨mE, e1, e2, e3⟩ := cpE 5 (f := xLF) (k := 0) (m := mD) (by decide) (by decide) (X _ (by decide))
  obtain ⟨mP, hP⟩ : ∃ mP, mP = st mE 106 1 (ld mE 106 0) := ⟨_, rfl⟩
  have p3 : ∀ b j, ¬ (b = 106 ∧ j = 1) → mP b j = mE b j := fun b j x => by rw [hP, st_at x]
  obtain ⟨mF, f1, f2, f3⟩ := cpF 6 (f := xLF) (k := 0) (m := mP) (by decide) (by decide) (X _ (by decide))
  have fF : ∀ b j, ¬ (101 ≤ b ∧ b ≤ 108) → mF b j = m b j := fun b j x => by rw [f3 b j (by omega), p3 b j (by omega), e3 b j (by omega), d3 b j (by omega), c3 b j (by omega), b3 b j (by omega), a3 b j (by omega)]
  obtain ⟨mG, g1, g2, g3⟩ := cpG z0.2 z.toNat (f := xLF) (k := 0) (m := mF) (by rw [ldq (fF 78 40 (by omega))]; exact r8) (by omega) (by decide) (X _ (by omega))
  obtain ⟨mH, h1, h2, h3⟩ := cpH 127 (f := xLF) (k := 0) (m := mG) (by decide) (by decide) (X _ (by decide))
  have l1 : ld mH 101 0 = nL G := by
    rw [ldq (h3 101 0 (by omega)), ldq (g3 101 0 (by omega)), ldq (f3 101 0 (by omega)), ldq (p3 101 0 (by omega)), ldq (e3 101 0 (by omega)), ldq (d3 101 0 (by omega)), ldq (c3 101 0 (by omega)), ldq (b3 101 0 (by omega)), ldq (a3 101 0 (by omega)), r1 0 (by decide) (by decide)]; rfl
  obtain ⟨mI, i1, i2, i3⟩ := cpI l4 (nL G).toNat (f := xLF) (k := 0) (m := mH) l1 (by omega) (by decide) (X _ (by omega))
  obtain ⟨m', hm⟩ : ∃ m', m' = st (st (st (st (st mI 78 61 0) 78 58 0) 78 47 0) 78 56 (-1)) 78 57 (-1) := ⟨_, rfl⟩
  have k3 : ∀ b j, b ≠ 78 → m' b j = mI b j := fun b j x => by rw [hm, st_at (by omega), st_at (by omega), st_at (by omega), st_at (by omega), st_at (by omega)]
  have t1 : ∀ b j, 101 ≤ b → b ≤ 109 → m' b j = mG b j := fun b j x y => by rw [k3 b j (by omega), i3 b j (by omega), h3 b j (by omega)]
  have t2 : ∀ b j, 101 ≤ b → b ≤ 108 → m' b j = mF b j := fun b j x y => by rw [t1 b j x (by omega), g3 b j (by omega)]
  refine ⟨m', ?_, ⟨fun t x1 x2 => ?_, ?_, fun l x1 x2 => ?_, fun n l x1 x2 x3 x4 => ?_, fun p x1 x2 => ?_, fun d x1 x2 => ?_, fun d k x1 x2 x3 x4 => ?_⟩, fun t i x1 x2 x3 x4 => ?_, fun l x1 x2 => ?_, fun i x1 x2 x3 => ?_, ?_, ?_, ?_, ?_, ?_, fun a k x y => ?_⟩
  · unfold r_stands
    rw [a1]
    unfold r_stands_27
    rw [b1]
    unfold r_stands_56
    rw [c1]
    unfold r_stands_85
    rw [d1]
    unfold r_stands_114
    rw [e1]
    unfold r_stands_141
    rw [ial_in (by decide) (by decide), ias_in (by decide) (by decide), ← hP, f1]
    unfold r_stands_197
    rw [g1]
    unfold r_stands_229
    rw [h1]
    unfold r_stands_250
    rw [i1]
    unfold r_stands_286
    rw [stf_eq, stf_eq, stf_eq, stf_eq, stf_eq, ← hm]
  · rw [ldq (t2 101 _ (by decide) (by decide)), ldq (f3 101 _ (by omega)), ldq (p3 101 _ (by omega)), ldq (e3 101 _ (by omega)), ldq (d3 101 _ (by omega)), ldq (c3 101 _ (by omega)), ldq (b3 101 _ (by omega)), a2 t x1 x2, r1 t x1 x2]
  · rw [ldq (t2 106 _ (by decide) (by decide)), ldq (f3 106 _ (by omega)), hP, ld_st_eq, w32_ld, ldq (e3 106 _ (by omega)), ldq (d3 106 _ (by omega)), ldq (c3 106 _ (by omega)), ldq (b3 106 _ (by omega)), ldq (a3 106 _ (by omega)), r2]
  · have q : ∀ i, 0 ≤ i → i < 12 → ld m' 103 (12 + i) = ld m 103 i := fun i y1 y2 => by
      rw [ldq (t2 103 _ (by decide) (by decide)), ldq (f3 103 _ (by omega)), ldq (p3 103 _ (by omega)), ldq (e3 103 _ (by omega)), ldq (d3 103 _ (by omega)), c2 i y1 y2, ldq (b3 103 _ (by omega)), ldq (a3 103 _ (by omega))]
    rw [q _ (by omega) (by omega), show (13 : Int) + 3 * l = 12 + (3 * l + 1) by omega, show (14 : Int) + 3 * l = 12 + (3 * l + 2) by omega, q _ (by omega) (by omega), q _ (by omega) (by omega)]
    exact r3 l x1 x2
  · have nn := wf.2.1
    rw [show (24 : Int) + 4 * n + l = 24 + (4 * n + l) by omega, ldq (t2 104 _ (by decide) (by decide)), ldq (f3 104 _ (by omega)), ldq (p3 104 _ (by omega)), ldq (e3 104 _ (by omega)), d2 _ (by omega) (by omega), ldq (c3 104 _ (by omega)), ldq (b3 104 _ (by omega)), ldq (a3 104 _ (by omega)), r4 n l x1 x2 x3 x4]
  · have nn := wf.2.2.2.1
    rw [ldq (t2 105 _ (by decide) (by decide)), ldq (f3 105 _ (by omega)), ldq (p3 105 _ (by omega)), e2 p x1 (by omega), ldq (d3 105 _ (by omega)), ldq (c3 105 _ (by omega)), ldq (b3 105 _ (by omega)), ldq (a3 105 _ (by omega)), r5 p x1 x2]
  · have nn := wf.2.2.1
    obtain ⟨y1, y2⟩ := f2 d x1 (by omega)
    rw [ldq (t2 107 _ (by decide) (by decide)), ldq (t2 108 _ (by decide) (by decide)), y1, y2, ldq (p3 107 _ (by omega)), ldq (e3 107 _ (by omega)), ldq (d3 107 _ (by omega)), ldq (c3 107 _ (by omega)), ldq (b3 107 _ (by omega)), ldq (a3 107 _ (by omega)), ldq (p3 108 _ (by omega)), ldq (e3 108 _ (by omega)), ldq (d3 108 _ (by omega)), ldq (c3 108 _ (by omega)), ldq (b3 108 _ (by omega)), ldq (a3 108 _ (by omega))]
    exact r6 d x1 x2
  · have y1 := I.2.1 d x1 x2
    have y2 := I.2.2.1 d x1 x2
    rw [ldq (t1 109 _ (by decide) (by decide)), g2 k (by omega) (by omega), ldq (fF 109 _ (by omega))]
    exact r7 d k x1 x2 x3 x4
  · have cn := wf_cnt wf t x1 x2
    rw [show (24 : Int) + 6 * t + i = 24 + (6 * t + i) by omega, ldlq (t2 102 _ (by decide) (by decide)), ldlq (f3 102 _ (by omega)), ldlq (p3 102 _ (by omega)), ldlq (e3 102 _ (by omega)), ldlq (d3 102 _ (by omega)), ldlq (c3 102 _ (by omega)), b2 _ (by omega) (by omega), ldlq (a3 102 _ (by omega))]
    exact r9 t i x1 x2 x3 x4
  · rw [ldq (k3 110 _ (by decide)), i2 l x1 x2, ldq (h3 103 _ (by omega)), ldq (g3 103 _ (by omega)), ldq (f3 103 _ (by omega)), ldq (p3 103 _ (by omega)), ldq (e3 103 _ (by omega)), ldq (d3 103 _ (by omega)), ldq (c3 103 _ (by omega)), ldq (b3 103 _ (by omega)), ldq (a3 103 _ (by omega))]
    exact (r3 l x1 x2).2.1
  · rw [ldq (k3 110 _ (by decide)), ldq (i3 110 i (by omega)), h2 i x1 x2]
  · rw [hm, ld_st_ne (by decide), ld_st_ne (by decide), ld_st_ne (by decide), ld_st_ne (by decide), ld_st_eq]; rfl
  · rw [hm, ld_st_ne (by decide), ld_st_ne (by decide), ld_st_ne (by decide), ld_st_eq]; rfl
  · rw [hm, ld_st_ne (by decide), ld_st_ne (by decide), ld_st_eq]; rfl
  · rw [hm, ld_st_ne (by decide), ld_st_eq]; rfl
  · rw [hm, ld_st_eq]; rfl
  · rw [hm, st_at (by omega), st_at (by omega), st_at (by omega), st_at (by omega), st_at (by omega), i3 a k (by omega), h3 a k (by omega), g3 a k (by omega), fF a k (by omega)]
