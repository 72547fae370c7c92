/-! letter -/
theorem five_bv {x : Int} {b : Nat} (hb : b = 0 ∨ b = 5 ∨ b = 10 ∨ b = 15 ∨ b = 20 ∨ b = 25) : (i32 (ban (usr x (b : Int)) 31)).toBitVec = ((i32 x).toBitVec >>> b) &&& 31#32 := by
  rw [ban_i, Int32.toBitVec_and, usr_i]
  rcases hb with rfl | rfl | rfl | rfl | rfl | rfl <;> rfl
theorem five_nat {n b : Nat} (hn : n < 2147483648) : ((BitVec.ofNat 32 n) >>> b) &&& 31#32 = BitVec.ofNat 32 (n / 2 ^ b % 32) := by
  apply BitVec.eq_of_toNat_eq
  rw [BitVec.toNat_and, BitVec.toNat_ushiftRight, BitVec.toNat_ofNat, Nat.shiftRight_eq_div_pow, BitVec.toNat_ofNat, BitVec.toNat_ofNat]
  rw [Nat.mod_eq_of_lt (show n < 2 ^ 32 by omega), show 31 % 2 ^ 32 = 2 ^ 5 - 1 by rfl, Nat.and_two_pow_sub_one_eq_mod]
  omega
theorem five {x : Int} {b : Nat} (hb : b = 0 ∨ b = 5 ∨ b = 10 ∨ b = 15 ∨ b = 20 ∨ b = 25) (h1 : 0 ≤ x) (h2 : x ≤ 2147483647) : ban (usr x (b : Int)) 31 = x / 2 ^ b % 32 := by
  obtain ⟨n, rfl⟩ := Int.eq_ofNat_of_zero_le h1
  have e := five_bv (x := (n : Int)) hb
  rw [i32_bv (n : Int), BitVec.ofInt_natCast, five_nat (by omega)] at e
  have e2 : i32 (ban (usr (n : Int) (b : Int)) 31) = i32 ((n / 2 ^ b % 32 : Nat) : Int) := by
    apply Int32.toBitVec_inj.mp
    rw [e, i32_bv, BitVec.ofInt_natCast]
  have e3 : w32 (ban (usr (n : Int) (b : Int)) 31) = w32 ((n / 2 ^ b % 32 : Nat) : Int) := congrArg Int32.toInt e2
  have e4 : w32 (ban (usr (n : Int) (b : Int)) 31) = ban (usr (n : Int) (b : Int)) 31 := w32_of _
  rw [e4, w32_id (by omega) (by omega)] at e3
  rw [e3]
  simp
def okc (L : List Int) : Prop := ∀ c ∈ L, 1 ≤ c ∧ c ≤ 26
theorem n32_rng : ∀ L : List Int, okc L → 0 ≤ n32 L ∧ n32 L < 32 ^ L.length
  | [], _ => by unfold n32; decide
  | c :: r, h => by
    have q := n32_rng r (fun x hx => h x (List.mem_cons_of_mem _ hx))
    have c1 := h c (List.mem_cons_self ..)
    unfold n32
    rw [List.length_cons, Int.pow_succ]
    omega
theorem n32_dig : ∀ (L : List Int) (k : Nat), okc L → n32 L / 32 ^ k % 32 = L.getD k 0
  | [], k, _ => by
    unfold n32
    simp
  | c :: r, 0, h => by
    have c1 := h c (List.mem_cons_self ..)
    unfold n32
    rw [Int.pow_zero, Int.ediv_one, List.getD_cons_zero]
    omega
  | c :: r, k + 1, h => by
    have c1 := h c (List.mem_cons_self ..)
    have q := n32_dig r k (fun x hx => h x (List.mem_cons_of_mem _ hx))
    unfold n32
    rw [Int.pow_succ, Int.mul_comm (32 ^ k) 32, dv2 _ _ _ (by decide), List.getD_cons_succ, ← q, show (c + 32 * n32 r) / 32 = n32 r by omega]
def rv : List Int → Int
  | [] => 0
  | c :: r => c + 27 * rv r
theorem n27_app (v : Int) : ∀ (A B : List Int), n27 v (A ++ B) = n27 (n27 v A) B
  | [], _ => rfl
  | c :: r, B => by
    rw [List.cons_append, n27, n27, n27_app _ r B]
theorem n27_rv : ∀ R : List Int, n27 0 R.reverse = rv R
  | [] => rfl
  | c :: r => by
    rw [List.reverse_cons, n27_app, n27_rv r, n27, n27, rv]
    omega
theorem rv_rng : ∀ R : List Int, okc R → 0 ≤ rv R ∧ rv R < 27 ^ R.length
  | [], _ => by unfold rv; decide
  | c :: r, h => by
    have q := rv_rng r (fun x hx => h x (List.mem_cons_of_mem _ hx))
    have c1 := h c (List.mem_cons_self ..)
    unfold rv
    rw [List.length_cons, Int.pow_succ]
    omega
theorem p27 {n : Nat} (h : n ≤ 6) : (27 : Int) ^ n ≤ 387420489 ∧ (32 : Int) ^ n ≤ 1073741824 := by
  have : ∀ n : Nat, n < 7 → (27 : Int) ^ n ≤ 387420489 ∧ (32 : Int) ^ n ≤ 1073741824 := by decide
  exact this n (by omega)
theorem let_cnt {k x : Int} {m : xm} : ∀ (R : List Int) (f : Nat) (v : Int), okc R → R.length ≤ 6 → R.length < f → r_letter_69 f k x v (rv R) m = r_letter_90 k x (v + (R.length : Int)) m
  | [], f, v, _, _, hf => by
    obtain ⟨f, rfl⟩ : ∃ f', f = f' + 1 := ⟨f - 1, by omega⟩
    rw [r_letter_69, if_pos (by unfold rv; decide)]
    show r_letter_90 k x v m = r_letter_90 k x (v + 0) m
    rw [Int.add_zero]
  | c :: r, f, v, h, h6, hf => by
    obtain ⟨f, rfl⟩ : ∃ f', f = f' + 1 := ⟨f - 1, by omega⟩
    have c1 := h c (List.mem_cons_self ..)
    have hr : okc r := fun y hy => h y (List.mem_cons_of_mem _ hy)
    have rr := rv_rng r hr
    rw [List.length_cons] at h6 hf
    have pp := (p27 (n := r.length) (by omega)).1
    rw [r_letter_69, rv, w64_id (by omega) (by omega), if_neg (by omega), ldv_nn (by omega) (by omega) (by decide) (by decide), xlt_eq, show (c + 27 * rv r) / 27 = rv r by omega, let_cnt r f (v + 1) hr (by omega) (by omega), List.length_cons]
    congr 1
    omega
theorem let_dig {k : Int} {m : xm} (hk0 : 0 ≤ k) (hk6 : k < 6) : ∀ (R : List Int) (f : Nat) (v : Int), okc R → R.length ≤ 6 → k ≤ v → v < 6 → v - k < f → r_letter_104 f k (rv R) v m = some (R.getD (v - k).toNat 0, m)
  | [], f, v, _, _, h1, h2, hf => by
    have : ∀ (j f : Nat) (v : Int), v - k = j → v < 6 → j < f → r_letter_104 f k 0 v m = some (0, m) := by
      intro j
      induction j with
      | zero =>
        intro f v e h2 hf
        obtain ⟨f, rfl⟩ : ∃ f', f = f' + 1 := ⟨f - 1, by omega⟩
        rw [r_letter_104, w32_id (x := v) (by omega) (by omega), w32_id (x := k) (by omega) (by omega), if_pos (by omega)]
        rfl
      | succ j ih =>
        intro f v e h2 hf
        obtain ⟨f, rfl⟩ : ∃ f', f = f' + 1 := ⟨f - 1, by omega⟩
        rw [r_letter_104, w32_id (x := v) (by omega) (by omega), w32_id (x := k) (by omega) (by omega), if_neg (by omega), xlt_eq]
        exact ih f (v + -1) (by omega) (by omega) (by omega)
    rw [show rv [] = 0 from rfl, this (v - k).toNat f v (by omega) h2 (by omega)]
    simp
  | c :: r, f, v, h, h6, h1, h2, hf => by
    obtain ⟨f, rfl⟩ : ∃ f', f = f' + 1 := ⟨f - 1, by omega⟩
    have c1 := h c (List.mem_cons_self ..)
    have hr : okc r := fun y hy => h y (List.mem_cons_of_mem _ hy)
    have rr := rv_rng r hr
    rw [List.length_cons] at h6
    have pp := (p27 (n := r.length) (by omega)).1
    rw [r_letter_104, rv, w32_id (x := v) (by omega) (by omega), w32_id (x := k) (by omega) (by omega)]
    by_cases e : v ≤ k
    · rw [if_pos e, show (v - k).toNat = 0 by omega, List.getD_cons_zero]
      unfold r_letter_124
      rw [lrm_nn (by omega) (by omega) (by decide) (by decide), show (c + 27 * rv r) % 27 = c by omega]
    · rw [if_neg e, ldv_nn (by omega) (by omega) (by decide) (by decide), xlt_eq, show (c + 27 * rv r) / 27 = rv r by omega, let_dig hk0 hk6 r f (v + -1) hr (by omega) (by omega) (by omega) (by omega), show (v - k).toNat = (v + -1 - k).toNat + 1 by omega, List.getD_cons_succ]
theorem ok_letter {t i k : Int} (ht : rg t) (hi : rg i) (hk : rg k) : okI (cL_letter t i k) (r_letter t i k) := okI_v (fun m hI => by
  obtain ⟨G, H⟩ := hI
  obtain ⟨⟨w, hD, -, c, M, r, N⟩, S0, P0, T, -, R, HH, JJ, LL, II, E⟩ := H
  obtain ⟨h, hh⟩ : ∃ h, hl m 12 = h := ⟨_, rfl⟩
  have p := hl_or m 12
  rw [hh] at p c M
  have pr := isH_rng p
  have t1 := ht.1
  have t2 := ht.2
  have i1 := hi.1
  have i2 := hi.2
  have k1 := hk.1
  have k2 := hk.2
  have cnt : 0 ≤ t → t < 4 → ld m 101 (4 + t) = G 0 t ∧ 0 ≤ G 0 t ∧ G 0 t ≤ 6 := fun z1 z2 => by
    have g1 := w.1.1
    have g2 := w.1.2.1
    have g3 := w.2.1
    have g4 := w.2.2.1
    have g5 := w.2.2.2.1
    refine ⟨r.1 t z1 z2, ?_⟩
    have e : t = 0 ∨ t = 1 ∨ t = 2 ∨ t = 3 := by omega
    unfold nL at g1 g2
    unfold nN at g3
    unfold nD at g4
    unfold nP at g5
    rcases e with rfl | rfl | rfl | rfl <;> omega
  unfold cL_letter r_letter
  rw [hh, cH_isOne_ok p w c ht hi, bnd_some, w32_rg ht, r_isIn_ok (by omega) (by omega) (by omega) (by omega) (by omega) (by omega), bnd_some]
  by_cases q1 : 0 ≤ t ∧ t ≤ 3
  · have ct := cnt q1.1 (by omega)
    rw [if_pos q1, if_neg (show ¬ (w32 1 = 0) by decide), ial_in (by omega) (by rw [show aln 101 = 8 from rfl]; omega), ct.1, w32_rg hi, w32_id (x := G 0 t - 1) (by omega) (by omega), r_isIn_ok (by omega) (by omega) (by omega) (by omega) (by omega) (by omega), bnd_some]
    by_cases q2 : 0 ≤ i ∧ i < G 0 t
    · rw [if_pos (show 0 ≤ t ∧ t < 4 ∧ 0 ≤ i ∧ i < G 0 t from ⟨q1.1, by omega, q2⟩), if_neg (show ¬ (w32 1 = 0) by decide), if_pos (show 0 ≤ i ∧ i ≤ G 0 t - 1 by omega), if_neg (show ¬ (w32 1 = 0) by decide), w32_rg hk, r_isIn_ok (by omega) (by omega) (by omega) (by omega) (by omega) (by omega), bnd_some]
      by_cases q3 : 0 ≤ k ∧ k ≤ 5
      · obtain ⟨L, l1, l2, l3⟩ := N t i q1.1 (by omega) q2.1 q2.2
        obtain ⟨len1, len6, lc⟩ := l1
        have lr := n32_rng L lc
        have pp := (p27 (n := L.length) len6)
        have rev : rv L.reverse = n27 0 L := by rw [← n27_rv, List.reverse_reverse]
        have okr : okc L.reverse := fun y hy => lc y (List.mem_reverse.mp hy)
        have lenr : L.reverse.length = L.length := List.length_reverse
        have q3a := q3.1
        have q3b := q3.2
        rw [if_neg (show ¬ (k < 0) by omega), if_pos (show k < 6 by omega), if_pos q3, if_neg (show ¬ (w32 1 = 0) by decide), hh]
        unfold cH_nameOf
        rw [cell_in (by omega) (by rw [(alnH p).2.2.2.1]; omega), bnd_some, show t * 6 + i = 6 * t + i by omega, ch_nm c q1.1 (by omega) q2.1 q2.2, bnd_some, l3, lal_in (by omega) (by rw [al102]; omega), l2, xlt_eq, xlt_eq, ← rev, let_cnt _ _ _ okr (by omega) (by rw [xLF_eq]; omega), lenr]
        have e5 : ban (usr (n32 L) (5 * k)) 31 = L.getD k.toNat 0 := by
          obtain ⟨b, hb, rfl⟩ := nat2 (n := 6) q3.1 (by omega)
          have := five (x := n32 L) (b := 5 * b) (by omega) lr.1 (by omega)
          rw [show (5 * (b : Int)) = ((5 * b : Nat) : Int) by omega, this, show ((b : Int)).toNat = b by omega, ← n32_dig L b lc, show (2 : Int) ^ (5 * b) = 32 ^ b by rw [Int.pow_mul]; rfl]
        rw [e5]
        unfold r_letter_90
        rw [w32_id (x := k) (by omega) (by omega), w32_id (x := (0 : Int) + (L.length : Int)) (by omega) (by omega)]
        by_cases q4 : k < 0 + (L.length : Int)
        · rw [if_pos q4, xlt_eq, let_dig q3.1 (by omega) L.reverse xLF _ okr (by omega) (by omega) (by omega) (by rw [xLF_eq]; omega)]
          refine ⟨_, rfl, ?_⟩
          have : (L.reverse).getD (0 + (L.length : Int) - 1 - k).toNat 0 = L.getD k.toNat 0 := by
            rw [List.getD_eq_getElem?_getD, List.getD_eq_getElem?_getD, List.getElem?_reverse (by omega), show L.length - 1 - (0 + (L.length : Int) - 1 - k).toNat = k.toNat by omega]
          rw [this]
        · rw [if_neg q4]
          refine ⟨0, ?_, rfl⟩
          rw [List.getD_eq_getElem?_getD, List.getElem?_eq_none (by omega)]
          rfl
      · rw [if_neg q3, if_pos (show w32 0 = 0 by decide)]
        refine ⟨-1, ?_, rfl⟩
        by_cases z : k < 0
        · rw [if_pos z]
        · rw [if_neg z, if_neg (show ¬ (k < 6) by omega)]
    · rw [if_neg (show ¬ (0 ≤ t ∧ t < 4 ∧ 0 ≤ i ∧ i < G 0 t) from fun z => q2 z.2.2), if_pos (show w32 0 = 0 by decide), if_neg (show ¬ (0 ≤ i ∧ i ≤ G 0 t - 1) by omega), if_pos (show w32 0 = 0 by decide)]
      exact ⟨-1, rfl, rfl⟩
  · rw [if_neg q1, if_pos (show w32 0 = 0 by decide), if_neg (show ¬ (0 ≤ t ∧ t < 4 ∧ 0 ≤ i ∧ i < G 0 t) by omega), if_pos (show w32 0 = 0 by decide)]
    exact ⟨-1, rfl, rfl⟩)
