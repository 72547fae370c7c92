/-! the reference's pile; isOpen, openNow, qTold -/
def skl (m : xm) : List Int → Prop
  | [] => True
  | x :: r => ldl m 140 (r.length : Int) = x ∧ skl m r
theorem skl_cg {m m' : xm} : ∀ {k : List Int}, skl m k → (∀ i : Nat, i < k.length → ldl m' 140 i = ldl m 140 i) → skl m' k
  | [], _, _ => trivial
  | x :: r, h, e => ⟨by rw [e r.length (by rw [List.length_cons]; omega)]; exact h.1, skl_cg h.2 (fun i hi => e i (by rw [List.length_cons]; omega))⟩
def fq (m m' : xm) : Prop := ∀ a k, ¬ (a = 78 ∧ k = 90) → a ≠ 140 → m' a k = m a k
theorem fq_refl {m : xm} : fq m m := fun _ _ _ _ => rfl
theorem fq_trans {m1 m2 m3 : xm} (h1 : fq m1 m2) (h2 : fq m2 m3) : fq m1 m3 := fun a k g1 g2 => by rw [h2 a k g1 g2, h1 a k g1 g2]
theorem fq_top {m : xm} {v : Int} : fq m (st m 78 90 v) := fun a k g1 _ => by
  unfold st
  rw [if_neg g1]
theorem fq_stk {m : xm} {i v : Int} : fq m (st m 140 i v) := fun a k _ g2 => by
  unfold st
  rw [if_neg (fun z => g2 z.1)]
theorem fq_ld {m m' : xm} (h : fq m m') {a : Nat} {k : Int} (g1 : ¬ (a = 78 ∧ k = 90)) (g2 : a ≠ 140) : ld m' a k = ld m a k := by
  unfold ld
  rw [h a k g1 g2]
theorem fq_RH {m m' : xm} {G : hv} (f : fq m m') (H : RH m G) : RH m' G := RH_cg H (fun a k g1 g2 _ => fq_ld f (by omega) (by omega))
theorem fq_NR {m m' : xm} {G : hv} {s : Int} (f : fq m m') (H : NR m G s) : NR m' G s := NR_cg H (fun k => fq_ld f (by omega) (by omega))
theorem ldl_st_eq {m : xm} {a : Nat} {k v : Int} : ldl (st m a k v) a k = w64 v := by rw [ldl_st, if_pos ⟨rfl, rfl⟩]
theorem ldl_st_ne {m : xm} {a : Nat} {k j v : Int} (h : j ≠ k) : ldl (st m a k v) a j = ldl m a j := by rw [ldl_st, if_neg (fun z => h z.2)]
theorem ldl_st_nc {m : xm} {a b : Nat} {k j v : Int} (h : b ≠ a) : ldl (st m a k v) b j = ldl m b j := by rw [ldl_st, if_neg (fun z => h z.1)]
theorem r_qPuts_ok {m : xm} {k : List Int} {x : Int} (ht : ld m 78 90 = k.length) (hk : skl m k) (hl : k.length < 1700) (hx : -9223372036854775808 ≤ x) (hx2 : x ≤ 9223372036854775807) : ∃ m', r_qPuts x m = some (0, m') ∧ fq m m' ∧ ld m' 78 90 = (k.length + 1 : Nat) ∧ skl m' (x :: k) := by
  unfold r_qPuts
  rw [ht, ias_in (by omega) (by rw [al140]; omega), stf_eq, ld_st_nc (by decide), ht]
  refine ⟨_, rfl, fq_trans fq_stk fq_top, ?_, ?_, ?_⟩
  · rw [ld_st_eq, w32_id (by omega) (by omega)]
    omega
  · rw [ldl_st_nc (by decide), ldl_st_eq, w64_id hx hx2]
  · refine skl_cg hk (fun i hi => ?_)
    rw [ldl_st_nc (by decide), ldl_st_ne (by omega)]
theorem r_bits_par : ∀ (f : Nat) (a b : Int) (m m0 : xm), r_bits_4 f a b m = (r_bits_4 f a b m0).map (fun p => (p.1, m))
  | 0, _, _, _, _ => rfl
  | f + 1, a, b, m, m0 => by
    rw [r_bits_4, r_bits_4]
    split
    · rfl
    · rw [xlt_eq, xlt_eq]
      exact r_bits_par f _ _ m m0
theorem r_bits_0 : ∀ j : Nat, j < 64 → ((r_bits_4 8 0 (j : Int) (fun _ _ => 0)).map (fun p => p.1)) = some (bc j) := by decide +kernel
theorem r_bits_up : ∀ (f : Nat) (a b : Int) (m : xm) (p : Int × xm) (n : Nat), r_bits_4 f a b m = some p → r_bits_4 (f + n) a b m = some p
  | 0, _, _, _, _, _, h => by cases h
  | f + 1, a, b, m, p, n, h => by
    rw [show f + 1 + n = (f + n) + 1 by omega, r_bits_4]
    rw [r_bits_4] at h
    split
    · next c => rw [if_pos c] at h; exact h
    · next c =>
      rw [if_neg c] at h
      exact r_bits_up f _ _ m p n h
theorem r_bits_ok {j : Int} {m : xm} (h1 : 0 ≤ j) (h2 : j < 64) : r_bits j m = some (bc j, m) := by
  obtain ⟨a, ha, rfl⟩ := nat2 (n := 64) h1 h2
  have h0 := r_bits_0 a ha
  have h3 : r_bits_4 8 0 (a : Int) m = some (bc a, m) := by
    rw [r_bits_par 8 0 a m (fun _ _ => 0)]
    cases hc : r_bits_4 8 0 (a : Int) (fun _ _ => 0) with
    | none => rw [hc] at h0; cases h0
    | some p =>
      rw [hc] at h0
      simp only [Option.map_some, Option.some.injEq] at h0
      rw [Option.map_some, h0]
  unfold r_bits
  rw [show xLF = 8 + 19992 from rfl]
  exact r_bits_up 8 _ _ _ _ _ h3
theorem r_qClip_ok {x : Int} {m : xm} (h1 : -9223372036854775808 ≤ x) (h2 : x ≤ 9223372036854775807) : r_qClip x m = some (clp x, m) := by
  unfold r_qClip clp
  rw [w64_id h1 h2]
  by_cases a : x ≤ 1000000
  · rw [if_pos a, if_neg (show ¬ 1000000 < x by omega)]
    by_cases b : -1000000 ≤ x
    · rw [if_pos b, if_neg (show ¬ x < -1000000 by omega)]
    · rw [if_neg b, if_pos (show x < -1000000 by omega)]
  · rw [if_neg a, if_pos (show 1000000 < x by omega)]
theorem ldv_t {x y : Int} (h1 : -1000000 ≤ x) (h2 : x ≤ 1000000) (h3 : -1000000 ≤ y) (h4 : y ≤ 1000000) : ldv x y = x.tdiv y := by
  have q := tdiv_rng (y := y) h1 h2
  unfold ldv
  rw [Int64.toInt_div, i64_toInt (by omega) (by omega), i64_toInt (by omega) (by omega)]
  rw [Int.bmod_eq_of_le] <;> omega
theorem lrm_t {x y : Int} (h1 : -1000000 ≤ x) (h2 : x ≤ 1000000) (h3 : -1000000 ≤ y) (h4 : y ≤ 1000000) : lrm x y = x.tmod y := by
  have q := tdiv_rng (y := y) h1 h2
  have r := tmod_rng (y := y) h1 h2
  have e := Int.mul_tdiv_add_tmod x y
  have e2 : x.tdiv y * y = x - x.tmod y := by rw [Int.mul_comm]; omega
  have h5 := ldv_t h1 h2 h3 h4
  have h6 : i64 x / i64 y = i64 (x.tdiv y) := by
    apply Int64.toInt_inj.mp
    rw [i64_toInt (by omega) (by omega)]
    exact h5
  unfold lrm
  rw [h6]
  have h9 : i64 x - i64 (x.tdiv y) * i64 y = i64 (x.tmod y) := by
    unfold i64
    rw [← Int64.ofInt_mul, ← Int64.ofInt_sub, e2]
    congr 1
    omega
  rw [h9]
  exact i64_toInt (by omega) (by omega)
theorem r_qFloor_ok {x y : Int} {m : xm} (h1 : -1000000 ≤ x) (h2 : x ≤ 1000000) (h3 : -1000000 ≤ y) (h4 : y ≤ 1000000) : r_qFloor x y m = some (fdv x y, m) := by
  unfold r_qFloor
  rw [w64_id (x := y) (by omega) (by omega), w64_id (x := x) (by omega) (by omega)]
  by_cases h0 : y = 0
  · rw [if_pos h0]
    unfold fdv
    rw [if_pos h0]
  · rw [if_neg h0, if_neg h0, xlt_eq, if_neg h0, ldv_t h1 h2 h3 h4, lrm_t h1 h2 h3 h4, fdv_t h0]
    by_cases hr : x.tmod y = 0
    · rw [if_pos hr, if_neg (fun z => z.1 hr)]
    · rw [if_neg hr]
      unfold r_qFloor_32 r_qFloor_43
      rw [w64_id (x := y) (by omega) (by omega)]
      by_cases a : 0 ≤ x
      · rw [if_pos a]
        by_cases b : 0 ≤ y
        · rw [if_pos b, if_pos (by decide), if_neg (by omega)]
        · rw [if_neg b, if_neg (by decide), if_pos ⟨hr, by omega⟩]
      · rw [if_neg a]
        by_cases b : 0 ≤ y
        · rw [if_pos b, if_neg (by decide), if_pos ⟨hr, by omega⟩]
        · rw [if_neg b, if_pos (by decide), if_neg (by omega)]
/-- one step of the reference's codes -/
def rstep (cl : Bool) (x3 i : Int) (m : xm) (K : xm → xr) : xr :=
    if w32 x3 < 1000 then
      if w32 x3 < 60 then
        if w32 x3 < 40 then
          if w32 x3 = 13 then
            bnd (r_qPuts 1 m) fun _ m9 => K m9
          else
          if w32 x3 = 12 then
            lal m 140 ((ld m 78 90) - 1) fun x6 =>
            ias m 140 ((ld m 78 90) - 1) (1 - x6) fun m7 => K m7
          else
          bnd (r_qJoins x3 m) fun _ m5 => K m5
        else
        bnd (r_qPartOf (x3 - 40) i m) fun r10 m11 =>
        if cl = true then (bnd (r_qClip r10 m11) fun r11 m12 => bnd (r_qPuts r11 m12) fun _ m13 => K m13) else
        bnd (r_qPuts r10 m11) fun _ m13 => K m13
      else
      lal m 140 ((ld m 78 90) - 1) fun x14 =>
      bnd (r_qOf (x3 - 60) x14 i m) fun r15 m16 =>
      bnd (r_qClip r15 m16) fun r17 m18 =>
      ias m18 140 ((ld m 78 90) - 1) r17 fun m19 => K m19
    else
    bnd (r_qPuts (w32 (x3 - 1000)) m) fun _ m21 => K m21
theorem clp_id {x : Int} (h1 : -1000000 ≤ x) (h2 : x ≤ 1000000) : clp x = x := by
  unfold clp
  rw [if_neg (by omega), if_neg (by omega)]
section RS
variable {G : hv}
theorem r_qPartOf_ok (w : wfG G) {m : xm} (H : RH m G) {s : Int} (hv : vs G s) (N : NR m G s) {t i lk : Int} (h1 : 10001 ≤ t) (h2 : t ≤ 10005) (hi : 10002 ≤ t → i = lk ∧ 0 ≤ lk ∧ lk < nL G) : r_qPartOf (t - 10001) i m = some (tkL G s lk t, m) := by
  have g2 := vs_j w.1 hv
  have hL := w.1.2.1
  have hb := bc_rng (j := jm G s)
  unfold r_qPartOf
  rw [w32_id (x := t - 10001) (by omega) (by omega)]
  rcases (show t = 10001 ∨ t = 10002 ∨ t = 10003 ∨ t = 10004 ∨ t = 10005 by omega) with rfl | rfl | rfl | rfl | rfl
  · simp only [xsw, tkL, Int.reduceSub, Int.reduceEq, reduceIte]
    rw [r_jammedNow_ok N, bnd_some, r_bits_ok g2.1 (by omega), bnd_some, w32_id (by omega) (by omega)]
  · obtain ⟨rfl, i1, i2⟩ := hi (by decide)
    simp only [xsw, tkL, Int.reduceSub, Int.reduceAdd, Int.reduceEq, reduceIte]
    rw [w32_id (by omega) (by omega)]
  · obtain ⟨rfl, i1, i2⟩ := hi (by decide)
    have := wx_pos w.1 i
    simp only [xsw, tkL, Int.reduceSub, Int.reduceAdd, Int.reduceEq, reduceIte]
    rw [r_wardsOf_ok w.1 H i1 i2, bnd_some, w32_id (by omega) (by omega)]
  · obtain ⟨rfl, i1, i2⟩ := hi (by decide)
    have := wx_pos w.1 i
    have := wd_rng w.1 s i
    simp only [xsw, tkL, Int.reduceSub, Int.reduceAdd, Int.reduceEq, reduceIte]
    rw [r_wardNow_ok w.1 N i1 i2, bnd_some, w32_id (by omega) (by omega)]
  · obtain ⟨rfl, i1, i2⟩ := hi (by decide)
    simp only [xsw, tkL, Int.reduceSub, Int.reduceAdd, Int.reduceEq, reduceIte]
    rw [r_isJammed_ok w.1 hv N i1 (by omega), bnd_some]
    rcases bt_01 (jm G s) i with e | e
    · rw [e, if_pos (by decide)]
    · rw [e, if_neg (by decide)]
theorem r_qOf_ok (w : wfG G) {m : xm} (H : RH m G) {s : Int} (hv : vs G s) (N : NR m G s) {t i lk x : Int} (h1 : 10011 ≤ t) (h2 : t ≤ 10012) (hx : -1000000 ≤ x) (hx2 : x ≤ 1000000) (hi : t = 10012 → i = lk ∧ 0 ≤ lk ∧ lk < nL G) : r_qOf (t - 10011) x i m = some (tk1 G s lk t x, m) := by
  have hL0 := w.1.1
  have hL := w.1.2.1
  have gN := w.2.1
  unfold r_qOf
  rw [w32_id (x := t - 10011) (by omega) (by omega)]
  rcases (show t = 10011 ∨ t = 10012 by omega) with rfl | rfl
  · simp only [xlw, tk1, Int.reduceSub, Int.reduceEq, reduceIte]
    rw [r_lockMany_ok H, bnd_some, w32_id (x := nL G - 1) (by omega) (by omega), r_isIn_ok (by omega) (by omega) (by omega) (by omega) (by omega) (by omega), bnd_some]
    by_cases c : 0 ≤ x ∧ x < nL G
    · have := wx_pos w.1 x
      have := wd_rng w.1 s x
      rw [if_pos (show 0 ≤ x ∧ x ≤ nL G - 1 by omega), if_neg (by decide), r_wardNow_ok w.1 N c.1 c.2, bnd_some, if_pos c, w32_id (by omega) (by omega)]
    · rw [if_neg (show ¬ (0 ≤ x ∧ x ≤ nL G - 1) by omega), if_pos (by decide), if_neg c]
  · obtain ⟨rfl, i1, i2⟩ := hi rfl
    simp only [xlw, tk1, Int.reduceSub, Int.reduceEq, reduceIte]
    rw [r_noteMany_ok H, bnd_some, w32_id (x := nN G - 1) (by omega) (by omega), r_isIn_ok (by omega) (by omega) (by omega) (by omega) (by omega) (by omega), bnd_some]
    by_cases c : 0 ≤ x ∧ x < nN G
    · have hT := w.2.2.2.2.2.2.1 x i c.1 (by omega) i1 (by omega)
      rw [if_pos (show 0 ≤ x ∧ x ≤ nN G - 1 by omega), if_neg (by decide), r_turnOf_ok w H c.1 c.2 i1 (by omega), bnd_some, if_pos (by omega), w32_id (by omega) (by omega)]
    · rw [if_neg (show ¬ (0 ≤ x ∧ x ≤ nN G - 1) by omega), if_pos (by decide)]
      by_cases c2 : 0 ≤ x ∧ x < 6
      · have hT := w.2.2.2.2.2.2.1 x i c2.1 c2.2 i1 (by omega)
        rw [if_pos c2, hT.2.2 (Or.inl (by omega))]
      · rw [if_neg c2]
theorem r_qJoins_ok {m : xm} {t x y : Int} {k0 : List Int} (ht : (t = 10020 ∨ t = 10021) ∧ (x = 0 ∨ x = 1) ∧ (y = 0 ∨ y = 1) ∨ 10022 ≤ t ∧ t ≤ 10024 ∨ 10030 ≤ t ∧ t ≤ 10035) (hx : -1000000 ≤ x) (hx2 : x ≤ 1000000) (hy : -1000000 ≤ y) (hy2 : y ≤ 1000000) (htop : ld m 78 90 = ((k0.length + 2 : Nat) : Int)) (hk : skl m (y :: x :: k0)) (hl : k0.length + 2 ≤ 64) : ∃ m', r_qJoins (rtk t) m = some (0, m') ∧ fq m m' ∧ ld m' 78 90 = (k0.length + 1 : Nat) ∧ skl m' (tk2 t x y :: k0) := by
  have hm := mul_rng6 hx hx2 hy hy2
  have e1 : ldl m 140 (((k0.length + 2 : Nat) : Int) - 1) = y := by
    have := hk.1
    rw [List.length_cons] at this
    rw [show (((k0.length + 2 : Nat) : Int) - 1) = ((k0.length + 1 : Nat) : Int) by omega]
    exact this
  have e2 : ldl m 140 (((k0.length + 2 : Nat) : Int) - 2) = x := by
    rw [show (((k0.length + 2 : Nat) : Int) - 2) = (k0.length : Int) by omega]
    exact hk.2.1
  have e3 : ld (st m 78 90 (((k0.length + 2 : Nat) : Int) - 2)) 78 90 = (k0.length : Int) := by
    rw [ld_st_eq, w32_id (by omega) (by omega)]
    omega
  have e4 : skl (st m 78 90 (((k0.length + 2 : Nat) : Int) - 2)) k0 := skl_cg hk.2.2 (fun i _ => ldl_st_nc (by decide))
  have put : ∀ v, -1000000000000 ≤ v → v ≤ 1000000000000 → ∃ m', r_qPuts v (st m 78 90 (((k0.length + 2 : Nat) : Int) - 2)) = some (0, m') ∧ fq m m' ∧ ld m' 78 90 = (k0.length + 1 : Nat) ∧ skl m' (v :: k0) := by
    intro v h1 h2
    obtain ⟨m', q1, q2, q3, q4⟩ := r_qPuts_ok e3 e4 (by omega) (x := v) (by omega) (by omega)
    exact ⟨m', q1, fq_trans fq_top q2, q3, q4⟩
  unfold r_qJoins
  rw [htop, lal_in (by omega) (by rw [al140]; omega), e1, xlt_eq, lal_in (by omega) (by rw [al140]; omega), e2, xlt_eq, stf_eq]
  rcases ht with ⟨ht, hb1, hb2⟩ | ht | ht
  · rcases ht with rfl | rfl
    · simp only [rtk, tk2, Int.reduceLT, Int.reduceLE, Int.reduceEq, reduceIte, w32_id (show -2147483648 ≤ (11 : Int) by decide) (by decide), xsw, Int.reduceAdd]
      rw [w64_id (x := x + y) (by omega) (by omega)]
      unfold r_qJoins_270
      by_cases c : x + y ≤ 0
      · rw [if_pos c, if_neg (by omega)]
        obtain ⟨m', q1, q2⟩ := put 0 (by decide) (by decide)
        rw [q1, bnd_some]
        exact ⟨m', rfl, q2⟩
      · rw [if_neg c, if_pos (by omega)]
        obtain ⟨m', q1, q2⟩ := put 1 (by decide) (by decide)
        rw [q1, bnd_some]
        exact ⟨m', rfl, q2⟩
    · simp only [rtk, tk2, Int.reduceLT, Int.reduceLE, Int.reduceEq, reduceIte, w32_id (show -2147483648 ≤ (10 : Int) by decide) (by decide), xsw, Int.reduceAdd]
      have e : x * y = if x + y = 2 then 1 else 0 := by rcases hb1 with rfl | rfl <;> rcases hb2 with rfl | rfl <;> rfl
      rw [← e]
      obtain ⟨m', q1, q2⟩ := put (x * y) (by omega) (by omega)
      rw [q1, bnd_some]
      exact ⟨m', rfl, q2⟩
  · rcases (show t = 10022 ∨ t = 10023 ∨ t = 10024 by omega) with rfl | rfl | rfl
    · simp only [rtk, tk2, Int.reduceLT, Int.reduceLE, Int.reduceEq, Int.reduceSub, reduceIte, Int.reduceAdd, w32_id (show -2147483648 ≤ (7 : Int) by decide) (by decide), xsw]
      rw [w64_id (x := x) (by omega) (by omega), w64_id (x := y) (by omega) (by omega)]
      unfold r_qJoins_200
      by_cases c : y ≤ x
      · rw [if_pos c, if_neg (by omega)]
        obtain ⟨m', q1, q2⟩ := put 0 (by decide) (by decide)
        rw [q1, bnd_some]
        exact ⟨m', rfl, q2⟩
      · rw [if_neg c, if_pos (by omega)]
        obtain ⟨m', q1, q2⟩ := put 1 (by decide) (by decide)
        rw [q1, bnd_some]
        exact ⟨m', rfl, q2⟩
    · simp only [rtk, tk2, Int.reduceLT, Int.reduceLE, Int.reduceEq, Int.reduceSub, reduceIte, Int.reduceAdd, w32_id (show -2147483648 ≤ (8 : Int) by decide) (by decide), xsw]
      rw [w64_id (x := x) (by omega) (by omega), w64_id (x := y) (by omega) (by omega)]
      unfold r_qJoins_219
      by_cases c : x ≤ y
      · rw [if_pos c, if_neg (by omega)]
        obtain ⟨m', q1, q2⟩ := put 0 (by decide) (by decide)
        rw [q1, bnd_some]
        exact ⟨m', rfl, q2⟩
      · rw [if_neg c, if_pos (by omega)]
        obtain ⟨m', q1, q2⟩ := put 1 (by decide) (by decide)
        rw [q1, bnd_some]
        exact ⟨m', rfl, q2⟩
    · simp only [rtk, tk2, Int.reduceLT, Int.reduceLE, Int.reduceEq, Int.reduceSub, reduceIte, Int.reduceAdd, w32_id (show -2147483648 ≤ (9 : Int) by decide) (by decide), xsw]
      rw [w64_id (x := x) (by omega) (by omega), w64_id (x := y) (by omega) (by omega)]
      unfold r_qJoins_238
      by_cases c : x = y
      · rw [if_pos c, if_pos c]
        obtain ⟨m', q1, q2⟩ := put 1 (by decide) (by decide)
        rw [q1, bnd_some]
        exact ⟨m', rfl, q2⟩
      · rw [if_neg c, if_neg c]
        obtain ⟨m', q1, q2⟩ := put 0 (by decide) (by decide)
        rw [q1, bnd_some]
        exact ⟨m', rfl, q2⟩
  · have c1 := clp_rng (x + y)
    have c2 := clp_rng (x - y)
    have c3 := clp_rng (x * y)
    have c4 := fdv_rng (y := y) hx hx2
    rcases (show t = 10030 ∨ t = 10031 ∨ t = 10032 ∨ t = 10033 ∨ t = 10034 ∨ t = 10035 by omega) with rfl | rfl | rfl | rfl | rfl | rfl
    · simp only [rtk, tk2, Int.reduceLT, Int.reduceLE, Int.reduceEq, Int.reduceSub, reduceIte, Int.reduceAdd, w32_id (show -2147483648 ≤ (1 : Int) by decide) (by decide), xsw]
      rw [r_qClip_ok (by omega) (by omega), bnd_some]
      obtain ⟨m', q1, q2⟩ := put (clp (x + y)) (by omega) (by omega)
      rw [q1, bnd_some]
      exact ⟨m', rfl, q2⟩
    · simp only [rtk, tk2, Int.reduceLT, Int.reduceLE, Int.reduceEq, Int.reduceSub, reduceIte, Int.reduceAdd, w32_id (show -2147483648 ≤ (2 : Int) by decide) (by decide), xsw]
      rw [r_qClip_ok (by omega) (by omega), bnd_some]
      obtain ⟨m', q1, q2⟩ := put (clp (x - y)) (by omega) (by omega)
      rw [q1, bnd_some]
      exact ⟨m', rfl, q2⟩
    · simp only [rtk, tk2, Int.reduceLT, Int.reduceLE, Int.reduceEq, Int.reduceSub, reduceIte, Int.reduceAdd, w32_id (show -2147483648 ≤ (3 : Int) by decide) (by decide), xsw]
      rw [r_qClip_ok (by omega) (by omega), bnd_some]
      obtain ⟨m', q1, q2⟩ := put (clp (x * y)) (by omega) (by omega)
      rw [q1, bnd_some]
      exact ⟨m', rfl, q2⟩
    · simp only [rtk, tk2, Int.reduceLT, Int.reduceLE, Int.reduceEq, Int.reduceSub, reduceIte, Int.reduceAdd, w32_id (show -2147483648 ≤ (4 : Int) by decide) (by decide), xsw]
      rw [r_qFloor_ok hx hx2 hy hy2, bnd_some]
      obtain ⟨m', q1, q2⟩ := put (fdv x y) (by omega) (by omega)
      rw [q1, bnd_some]
      exact ⟨m', rfl, q2⟩
    · simp only [rtk, tk2, Int.reduceLT, Int.reduceLE, Int.reduceEq, Int.reduceSub, reduceIte, Int.reduceAdd, w32_id (show -2147483648 ≤ (5 : Int) by decide) (by decide), xsw]
      rw [w64_id (x := x) (by omega) (by omega), w64_id (x := y) (by omega) (by omega)]
      unfold r_qJoins_161
      by_cases c : y ≤ x
      · rw [if_pos c, if_neg (by omega)]
        obtain ⟨m', q1, q2⟩ := put y (by omega) (by omega)
        rw [q1, bnd_some]
        exact ⟨m', rfl, q2⟩
      · rw [if_neg c, if_pos (by omega)]
        obtain ⟨m', q1, q2⟩ := put x (by omega) (by omega)
        rw [q1, bnd_some]
        exact ⟨m', rfl, q2⟩
    · simp only [rtk, tk2, Int.reduceLT, Int.reduceLE, Int.reduceEq, Int.reduceSub, reduceIte, Int.reduceAdd, w32_id (show -2147483648 ≤ (6 : Int) by decide) (by decide), xsw]
      rw [w64_id (x := x) (by omega) (by omega), w64_id (x := y) (by omega) (by omega)]
      unfold r_qJoins_181
      by_cases c : x ≤ y
      · rw [if_pos c]
        obtain ⟨m', q1, q2, q3, q4⟩ := put y (by omega) (by omega)
        rw [q1, bnd_some]
        refine ⟨m', rfl, q2, q3, ?_⟩
        by_cases c2 : x < y
        · rw [if_pos c2]
          exact q4
        · rw [if_neg c2, show x = y by omega]
          exact q4
      · rw [if_neg c, if_neg (by omega)]
        obtain ⟨m', q1, q2⟩ := put x (by omega) (by omega)
        rw [q1, bnd_some]
        exact ⟨m', rfl, q2⟩
theorem rstep_ok (w : wfG G) {q : Bool} {cl : Bool} {s lk i : Int} (hv : vs G s) (hq : q = true → i = lk ∧ 0 ≤ lk ∧ lk < nL G) (hl : -1 ≤ lk) (hl2 : lk < 4) {m : xm} (H : RH m G) (N : NR m G s) {t : Int} {kb kb' : List Bool} {stk : List Int} (ht : tyk q t kb = some kb') (hlen : kb'.length ≤ 64) (hkl : kb.length ≤ 64) (hvk : vok kb stk) (htop : ld m 78 90 = stk.length) (hsk : skl m stk) (K : xm → xr) :
    ∃ m1, rstep cl (rtk t) i m K = K m1 ∧ fq m m1 ∧ ld m1 78 90 = (tks G s lk t stk).length ∧ skl m1 (tks G s lk t stk) := by
  have htk := tk_ok w hl hl2 (fun z => (hq z).2.1) (s := s) hvk ht
  have hln := vok_len hvk
  unfold rstep
  rcases tyk_cases ht with ⟨ht1, rfl⟩ | ⟨rfl, r, rfl, rfl⟩ | ⟨ht1, r, rfl, rfl⟩ | ⟨ht1, r, rfl, rfl⟩ | ⟨ht1, ht2, r, rfl, rfl⟩ | ⟨ht1, ht2, r, rfl, rfl⟩
  · rw [List.length_cons] at hlen
    by_cases hn : t < 10000
    · have e : tks G s lk t stk = t :: stk := by unfold tks; rw [if_pos hn]
      have er : rtk t = 1000 + t := by unfold rtk; rw [if_pos hn]
      obtain ⟨m1, q1, q2, q3, q4⟩ := r_qPuts_ok htop hsk (by omega) (x := t) (by omega) (by omega)
      rw [e, er, w32_id (x := 1000 + t) (by omega) (by omega), if_neg (by omega), show 1000 + t - 1000 = t by omega, w32_id (x := t) (by omega) (by omega), q1, bnd_some]
      exact ⟨m1, rfl, q2, q3, q4⟩
    · by_cases ha : t = 10000
      · subst ha
        obtain ⟨m1, q1, q2, q3, q4⟩ := r_qPuts_ok htop hsk (by omega) (x := 1) (by omega) (by omega)
        have er : rtk 10000 = 13 := rfl
        rw [er, w32_id (x := 13) (by omega) (by omega), if_pos (by decide), if_pos (by decide), if_pos (by decide), if_pos rfl, q1, bnd_some]
        exact ⟨m1, rfl, q2, q3, q4⟩
      · have e : tks G s lk t stk = tkL G s lk t :: stk := by unfold tks; rw [if_neg hn, if_pos (by omega)]
        have er : rtk t = t - 10001 + 40 := by unfold rtk; rw [if_neg hn, if_neg ha, if_pos (by omega)]
        have hr := tkL_rng w (s := s) (t := t) hl hl2
        obtain ⟨m1, q1, q2, q3, q4⟩ := r_qPuts_ok htop hsk (by omega) (x := tkL G s lk t) (by omega) (by omega)
        rw [e, er, w32_id (x := t - 10001 + 40) (by omega) (by omega), if_pos (by omega), if_pos (by omega), if_neg (by omega), show t - 10001 + 40 - 40 = t - 10001 by omega, r_qPartOf_ok w H hv N (lk := lk) (by omega) (by omega) (fun z => hq (by rcases ht1 with g | g; omega; exact g.2.2)), bnd_some]
        cases cl with
        | true =>
          rw [if_pos rfl, r_qClip_ok (by omega) (by omega), bnd_some, clp_id (by omega) (by omega), q1, bnd_some]
          exact ⟨m1, rfl, q2, q3, q4⟩
        | false =>
          rw [if_neg (by decide), q1, bnd_some]
          exact ⟨m1, rfl, q2, q3, q4⟩
  · match stk, hvk, htop, hsk, hln, htk with
    | x :: k0, hvk, htop, hsk, hln, htk =>
      simp only [List.length_cons] at hlen hln
      have hx := vok_rng hvk.1
      have e : tks G s lk 10010 (x :: k0) = (1 - x) :: k0 := rfl
      have er : rtk 10010 = 12 := rfl
      have hi : (((x :: k0).length : Nat) : Int) - 1 = (k0.length : Int) := by rw [List.length_cons]; omega
      rw [e, er, w32_id (x := 12) (by omega) (by omega), if_pos (by decide), if_pos (by decide), if_pos (by decide), if_neg (by decide), if_pos rfl, htop, hi, lal_in (by omega) (by rw [al140]; omega), hsk.1, ias_in (by omega) (by rw [al140]; omega)]
      refine ⟨_, rfl, fq_stk, ?_, ?_, ?_⟩
      · rw [ld_st_nc (by decide), htop]
        rfl
      · rw [ldl_st_eq, w64_id (by omega) (by omega)]
      · exact skl_cg hsk.2 (fun i hi => ldl_st_ne (by omega))
  · match stk, hvk, htop, hsk, hln, htk with
    | x :: k0, hvk, htop, hsk, hln, htk =>
      simp only [List.length_cons] at hlen hln
      have hx := vok_rng hvk.1
      have e : tks G s lk t (x :: k0) = tk1 G s lk t x :: k0 := by unfold tks; rw [if_neg (by omega), if_neg (by omega), if_pos (by omega)]
      rw [e] at htk ⊢
      have hy := vok_rng htk.1
      have er : rtk t = t - 10011 + 60 := by unfold rtk; rw [if_neg (by omega), if_neg (by omega), if_neg (by omega), if_neg (by omega), if_pos (by omega)]
      have hi : (((x :: k0).length : Nat) : Int) - 1 = (k0.length : Int) := by rw [List.length_cons]; omega
      rw [er, w32_id (x := t - 10011 + 60) (by omega) (by omega), if_pos (by omega), if_neg (by omega), htop, hi, lal_in (by omega) (by rw [al140]; omega), hsk.1, show t - 10011 + 60 - 60 = t - 10011 by omega, r_qOf_ok w H hv N (lk := lk) (by omega) (by omega) hx.1 hx.2 (fun z => hq (by rcases ht1 with g | g; omega; exact g.2)), bnd_some, r_qClip_ok (by omega) (by omega), bnd_some, clp_id hy.1 hy.2, ias_in (by omega) (by rw [al140]; omega)]
      refine ⟨_, rfl, fq_stk, ?_, ?_, ?_⟩
      · rw [ld_st_nc (by decide), htop]
        rfl
      · rw [ldl_st_eq, w64_id (by omega) (by omega)]
      · exact skl_cg hsk.2 (fun i hi => ldl_st_ne (by omega))
  all_goals
    match stk, hvk, htop, hsk, hln, htk with
    | y :: x :: k0, hvk, htop, hsk, hln, htk =>
      have hl1 : k0.length + 2 ≤ 64 := by
        have := vok_len hvk.2.2
        simp only [List.length_cons] at hkl
        omega
      have hy := vok_rng hvk.1
      have hx := vok_rng hvk.2.1
      have e : tks G s lk t (y :: x :: k0) = tk2 t x y :: k0 := by unfold tks; rw [if_neg (by omega), if_neg (by omega), if_neg (by omega)]
      have er : 0 ≤ rtk t ∧ rtk t < 12 := by unfold rtk; (repeat' split) <;> omega
      obtain ⟨m1, q1, q2, q3, q4⟩ := r_qJoins_ok (m := m) (t := t) (x := x) (y := y) (k0 := k0) (by first | exact Or.inl ⟨ht1, hvk.2.1, hvk.1⟩ | exact Or.inr (Or.inl ⟨ht1, ht2⟩) | exact Or.inr (Or.inr ⟨ht1, ht2⟩)) hx.1 hx.2 hy.1 hy.2 htop hsk hl1
      rw [e, w32_id (x := rtk t) (by omega) (by omega), if_pos (by omega), if_pos (by omega), if_pos (by omega), if_neg (by omega), if_neg (by omega), q1, bnd_some]
      exact ⟨m1, rfl, q2, q3, q4⟩
theorem isOpen_step (f : Nat) (d k : Int) (m : xm) : r_isOpen_15 (f + 1) d k m = ial m 108 (6 + d) fun x1 => if w32 x1 ≤ w32 k then r_isOpen_182 m else ial m 109 (1600 + k) fun x2 => rstep false x2 0 m (fun m => r_isOpen_15 f d (k + 1) m) := rfl
theorem qTold_step (f : Nat) (i k : Int) (m : xm) : r_qTold_7 (f + 1) i k m = if ld m 78 84 ≤ w32 k then r_qTold_168 m else ial m 138 k fun x2 => rstep true x2 i m (fun m => r_qTold_7 f i (k + 1) m) := rfl
theorem isOpen_loop (w : wfG G) {s d : Int} (hv : vs G s) (hd : 0 ≤ d) (hd2 : d < nD G) (hto : G 7 d ≤ 1600) : ∀ (ts : List Int) {m : xm} {f : Nat} {k : Int} {kb : List Bool} {stk : List Int}, RH m G → NR m G s → G 6 d ≤ k → 0 ≤ k → k + ts.length = G 7 d → (∀ i : Nat, i < ts.length → G 8 (k + i) = ts.getD i 0) → tyl false ts kb = some [true] → vok kb stk → kb.length ≤ 64 → ld m 78 90 = stk.length → skl m stk → ts.length < f →
    ∃ v m', r_isOpen_15 f d k m = some (v, m') ∧ evl G s (-1) ts stk = [v] ∧ fq m m' := by
  have gD := w.2.2.1
  intro ts
  induction ts with
  | nil =>
    intro m f k kb stk H N hk6 hk0 hk1 _ ht hvk hkl htop hsk hf
    cases ht
    obtain ⟨f, rfl⟩ : ∃ f', f = f' + 1 := ⟨f - 1, by omega⟩
    simp only [List.length_nil] at hk1
    match stk, hvk, htop, hsk with
    | [x], hvk, htop, hsk =>
      rw [isOpen_step, ial_in (by omega) (by rw [al108]; omega), (H.2.2.2.2.2.1 d hd hd2).2, w32_id (x := G 7 d) (by omega) (by omega), w32_id (x := k) (by omega) (by omega), if_pos (by omega)]
      unfold r_isOpen_182
      have h1 : ldl m 140 0 = x := hsk.1
      have hx : x = 0 ∨ x = 1 := hvk.1
      rw [lal_in (by decide) (by rw [al140]; decide), h1]
      rcases hx with rfl | rfl
      · rw [if_neg (by decide)]
        exact ⟨0, m, rfl, rfl, fq_refl⟩
      · rw [if_pos (by decide)]
        exact ⟨1, m, rfl, rfl, fq_refl⟩
  | cons t ts ih =>
    intro m f k kb stk H N hk6 hk0 hk1 hc1 ht hvk hkl htop hsk hf
    simp only [List.length_cons] at hk1 hf
    obtain ⟨f, rfl⟩ : ∃ f', f = f' + 1 := ⟨f - 1, by omega⟩
    have et : G 8 k = t := by
      have := hc1 0 (by rw [List.length_cons]; omega)
      simpa using this
    unfold tyl at ht
    split at ht
    · next kb' hty =>
      split at ht
      · next hlen =>
        rw [isOpen_step, ial_in (by omega) (by rw [al108]; omega), (H.2.2.2.2.2.1 d hd hd2).2, w32_id (x := G 7 d) (by omega) (by omega), w32_id (x := k) (by omega) (by omega), if_neg (by omega), ial_in (by omega) (by rw [al109]; omega), H.2.2.2.2.2.2 d k hd hd2 hk6 (by omega), et]
        obtain ⟨m1, e1, e2, e3, e4⟩ := rstep_ok w (q := false) (cl := false) (s := s) (lk := -1) (i := 0) hv (fun z => by cases z) (by omega) (by omega) H N hty hlen hkl hvk htop hsk (fun m => r_isOpen_15 f d (k + 1) m)
        have hvk' := tk_ok w (q := false) (lk := -1) (by omega) (by omega) (fun z => by cases z) (s := s) hvk hty
        obtain ⟨v, m2, g1, g2, g4⟩ := ih (m := m1) (f := f) (k := k + 1) (fq_RH e2 H) (fq_NR e2 N) (by omega) (by omega) (by omega) (fun i hi => by
          have := hc1 (i + 1) (by rw [List.length_cons]; omega)
          rw [show k + 1 + (i : Int) = k + ((i + 1 : Nat) : Int) by omega, this]
          rfl) ht hvk' hlen e3 e4 (by omega)
        rw [e1]
        exact ⟨v, m2, g1, g2, fq_trans e2 g4⟩
      · cases ht
    · cases ht
theorem r_isOpen_ok (w : wfG G) (hD : wfD G) {s d : Int} (hv : vs G s) (hd : 0 ≤ d) (hd2 : d < nD G) {m : xm} (H : RH m G) (N : NR m G s) : ∃ m', r_isOpen d m = some (dv G s d, m') ∧ fq m m' := by
  have gD := w.2.2.1
  obtain ⟨d1, d2, d3, d4⟩ := hD d hd hd2
  have hln := sgm_len (G 8) (G 6 d) (G 7 d)
  unfold r_isOpen
  rw [stf_eq, ial_in (by omega) (by rw [al107]; omega), ld_st_nc (by decide), (H.2.2.2.2.2.1 d hd hd2).1, xlt_eq]
  obtain ⟨v, m', e1, e2, e3⟩ := isOpen_loop w hv hd hd2 d3 (seg G d) (m := st m 78 90 0) (f := xLF) (k := G 6 d) (kb := []) (stk := []) (fq_RH fq_top H) (fq_NR fq_top N) (Int.le_refl _) d1 (by unfold seg; omega) (fun i hi => by
    unfold seg at hi ⊢
    rw [sgm_at _ _ _ _ (by omega)]) d4 trivial (by decide) (by rw [ld_st_eq]; rfl) trivial (by rw [xLF_eq]; unfold seg; omega)
  refine ⟨m', ?_, fq_trans fq_top e3⟩
  rw [e1]
  have : dv G s d = v := by
    unfold dv
    rw [e2]
    rfl
  rw [this]
theorem bor_od0 : ∀ k : Nat, k < 6 → ∀ x : Nat, x < 2 ^ k → bor (x : Int) (shl 1 (k : Int)) = (x : Int) + 2 ^ k := by decide +kernel
theorem openNow_loop (w : wfG G) (hD : wfD G) {s : Int} (hv : vs G s) : ∀ (f k : Nat) {m : xm}, RH m G → NR m G s → (k : Int) ≤ nD G → (nD G).toNat - k < f → ∃ m', r_openNow_4 f (odl G s k) (k : Int) m = some (od G s, m') ∧ fq m m' := by
  have gD := w.2.2.1
  intro f
  induction f with
  | zero => intro k m _ _ _ hf; omega
  | succ f ih =>
    intro k m H N hk hf
    rw [r_openNow_4, r_doorMany_ok H, bnd_some, w32_id (x := (k : Int)) (by omega) (by omega), w32_id (x := nD G) (by omega) (by omega)]
    by_cases he : nD G ≤ (k : Int)
    · rw [if_pos he]
      have : k = (nD G).toNat := by omega
      subst this
      exact ⟨m, rfl, fq_refl⟩
    · obtain ⟨m1, e1, e2⟩ := r_isOpen_ok w hD hv (d := (k : Int)) (by omega) (by omega) H N
      have h01 := (dv_01 w hD (s := s) (d := k) (by omega) (by omega)).2
      have hr := odl_rng w hD s k (by omega)
      obtain ⟨m2, g1, g2⟩ := ih (k + 1) (fq_RH e2 H) (fq_NR e2 N) (by omega) (by omega)
      rw [if_neg he, e1, bnd_some]
      have e26 : ∀ (x : Int) m, r_openNow_26 (fun v1 v2 m => r_openNow_4 f v1 v2 m) x (k : Int) m = r_openNow_4 f x ((k + 1 : Nat) : Int) m := fun _ _ => rfl
      rcases h01 with h | h
      · rw [h, if_pos (by decide), e26]
        have e : odl G s (k + 1) = odl G s k := by
          show odl G s k + dv G s k * 2 ^ k = _
          rw [h]
          omega
        rw [← e]
        exact ⟨m2, g1, fq_trans e2 g2⟩
      · rw [h, if_neg (by decide), xlt_eq, e26]
        have e : bor (odl G s k) (shl 1 (k : Int)) = odl G s (k + 1) := by
          show _ = odl G s k + dv G s k * 2 ^ k
          rw [h, Int.one_mul]
          obtain ⟨n, hn⟩ := Int.eq_ofNat_of_zero_le hr.1
          rw [hn] at hr ⊢
          exact bor_od0 k (by omega) n (by exact_mod_cast hr.2)
        rw [e]
        exact ⟨m2, g1, fq_trans e2 g2⟩
theorem r_openNow_ok (w : wfG G) (hD : wfD G) {s : Int} (hv : vs G s) {m : xm} (H : RH m G) (N : NR m G s) : ∃ m', r_openNow m = some (od G s, m') ∧ fq m m' := by
  have gD := w.2.2.1
  exact openNow_loop w hD hv xLF 0 H N (by omega) (by rw [xLF_eq]; omega)
end RS
