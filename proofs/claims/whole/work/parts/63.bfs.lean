/-! searching: what both keep of it -/
theorem IG_qn {m m' : xm} {G : hv} {h : Nat} (hh : hl m 12 = h) (H : IG m G) (e : ∀ a k, ¬ qset h a k → m' a k = m a k) (M : CM m' h G) (S : SN m' G 22 110 0) (T : TP m') (R : RF m') (E : HE m' G) (J : JU m') (L : SL m') (I : IM m') : IG m' G := by
  obtain ⟨h1, h2, h3, h4, h5, h6, h7, h8, h9, h10, h11⟩ := H
  have p := hl_or m 12
  rw [hh] at p
  have pr := isH_rng p
  obtain ⟨w1, w2, w3, w4, w5, w6, w7⟩ := h1
  rw [hh] at w4 w5
  have q : ∀ a k, a < 48 ∨ 78 ≤ a → ¬ (scr a k ∨ a = 110 ∨ fTP a k ∨ fRF a k ∨ fHE a k ∨ fJU a k ∨ fSL a k ∨ fIM a k) → m' a k = m a k := fun a k g z => e a k (fun y => by
    rcases y with y | y | y | y | y | y | y | y | y | y | y
    · exact z (Or.inl y)
    · exact z (Or.inr (Or.inl y))
    · exact z (Or.inr (Or.inr (Or.inl y)))
    · exact z (Or.inr (Or.inr (Or.inr (Or.inl y))))
    · exact z (Or.inr (Or.inr (Or.inr (Or.inr (Or.inl y)))))
    · exact z (Or.inr (Or.inr (Or.inr (Or.inr (Or.inr (Or.inl y))))))
    · exact z (Or.inr (Or.inr (Or.inr (Or.inr (Or.inr (Or.inr (Or.inl y)))))))
    · exact z (Or.inr (Or.inr (Or.inr (Or.inr (Or.inr (Or.inr (Or.inr y)))))))
    · omega
    · omega
    · omega)
  have e12 : hl m' 12 = h := by rw [hl_cg (q 0 12 (by decide) (by unfold scr fTP fRF fHE fJU fSL fIM; omega)), hh]
  have e13 : hl m' 13 = hl m 13 := hl_cg (q 0 13 (by decide) (by unfold scr fTP fRF fHE fJU fSL fIM; omega))
  refine ⟨⟨w1, w2, by rw [e12, e13, ← hh]; exact w3, ?_, by rw [e12]; exact M, RH_cg w6 (fun a k g1 g2 _ => ldq (q a k (by omega) (by unfold scr fTP fRF fHE fJU fSL fIM; omega))), NM_cg w7 (fun k => q 102 k (by decide) (by unfold scr fTP fRF fHE fJU fSL fIM; omega))⟩, S, PS_cg h3 (fun a k z => q a k ?_ ?_), T, FA_cg h5 (fun a k z => q a k ?_ ?_), R, E, J, L, I, SE_cg h11 (fun a k z => q a k ?_ ?_)⟩
  · rw [e12]
    exact CH_cg w4 (fun a k z => ldq (e a k (fun y => by
      unfold qset scr fTP fRF fHE fJU fSL fIM at y
      rcases z with rfl | ⟨z1, z2⟩ | ⟨rfl, z⟩ <;> omega)))
  · unfold fPS at z; omega
  · unfold fPS at z; unfold scr fTP fRF fHE fJU fSL fIM; omega
  · unfold fFA at z; omega
  · unfold fFA at z; unfold scr fTP fRF fHE fJU fSL fIM; omega
  · unfold fSE at z; omega
  · unfold fSE at z; unfold scr fTP fRF fHE fJU fSL fIM; omega
abbrev qe : Type := Int × Int × Int × Int
def gd (q : List qe) (i : Nat) : qe := q.getD i (0, 0, 0, 0)
def fsq (q : List qe) : List Int := q.map Prod.fst
def rch (s p y : Int) (q : List qe) : List qe := if s ∈ fsq q then q else q ++ [(s, p, y, (gd q p.toNat).2.2.2 + 1)]
theorem gd_lt {q : List qe} {e : qe} {i : Nat} (h : i < q.length) : gd (q ++ [e]) i = gd q i := by
  unfold gd
  rw [List.getD_eq_getElem?_getD, List.getD_eq_getElem?_getD, List.getElem?_append_left h]
theorem gd_eq {q : List qe} {e : qe} : gd (q ++ [e]) q.length = e := by
  unfold gd
  rw [List.getD_eq_getElem?_getD, List.getElem?_append_right (Nat.le_refl _), Nat.sub_self]
  rfl
theorem gd_mem {q : List qe} {i : Nat} (h : i < q.length) : (gd q i).1 ∈ fsq q := by
  unfold gd fsq
  rw [List.getD_eq_getElem?_getD, List.getElem?_eq_getElem h, Option.getD_some]
  exact List.mem_map_of_mem (List.getElem_mem h)
theorem fsq_ex {q : List qe} {s : Int} (h : s ∈ fsq q) : ∃ i, i < q.length ∧ (gd q i).1 = s := by
  unfold fsq at h
  obtain ⟨e, h1, h2⟩ := List.mem_map.mp h
  obtain ⟨i, h3, h4⟩ := List.getElem_of_mem h1
  refine ⟨i, h3, ?_⟩
  unfold gd
  rw [List.getD_eq_getElem?_getD, List.getElem?_eq_getElem h3, Option.getD_some, h4, h2]
theorem fsq_app (q : List qe) (e : qe) : fsq (q ++ [e]) = fsq q ++ [e.1] := by
  unfold fsq
  rw [List.map_append]
  rfl
/-! seen: bits -/
theorem shl_tp0 : ∀ i : Nat, i < 32 → (i32 (shl 1 (i : Int))).toBitVec = BitVec.twoPow 32 i := by decide +kernel
def sbt (x : Int) (j : Nat) : Bool := (i32 x).toBitVec.getLsbD j
theorem sbt_0 (j : Nat) : sbt 0 j = false := by
  unfold sbt
  show (0#32).getLsbD j = false
  exact BitVec.getLsbD_zero
theorem ban_sbt {x : Int} {j : Nat} (hj : j < 32) : ban x (shl 1 (j : Int)) = 0 ↔ sbt x j = false := by
  have e : (i32 (ban x (shl 1 (j : Int)))).toBitVec = if sbt x j = true then BitVec.twoPow 32 j else 0#32 := by
    rw [ban_i, Int32.toBitVec_and, shl_tp0 j hj, BitVec.and_twoPow]
    rfl
  have e4 : w32 (ban x (shl 1 (j : Int))) = ban x (shl 1 (j : Int)) := w32_of _
  constructor
  · intro h
    rw [h] at e
    refine Bool.eq_false_iff.mpr (fun z => ?_)
    rw [if_pos z] at e
    have : (0#32).getLsbD j = (BitVec.twoPow 32 j).getLsbD j := congrArg (fun b => b.getLsbD j) e
    rw [BitVec.getLsbD_zero, BitVec.getLsbD_twoPow] at this
    simp [hj] at this
  · intro h
    rw [if_neg (by rw [h]; decide)] at e
    have : i32 (ban x (shl 1 (j : Int))) = i32 0 := Int32.toBitVec_inj.mp e
    have e3 : w32 (ban x (shl 1 (j : Int))) = w32 0 := congrArg Int32.toInt this
    rw [e4] at e3
    exact e3
theorem bor_sbt {x : Int} {i j : Nat} (hi : i < 32) (hj : j < 32) : sbt (w32 (bor x (shl 1 (i : Int)))) j = (sbt x j || decide (i = j)) := by
  have e4 : w32 (bor x (shl 1 (i : Int))) = bor x (shl 1 (i : Int)) := w32_of _
  rw [e4]
  unfold sbt
  rw [bor_i, Int32.toBitVec_or, shl_tp0 i hi, BitVec.getLsbD_or, BitVec.getLsbD_twoPow]
  simp [hi]
theorem ban31_n {n : Nat} (hn : n < 2147483648) : ban (n : Int) 31 = ((n % 32 : Nat) : Int) := by
  unfold ban
  have e1 : i32 (n : Int) &&& i32 31 = i32 ((n % 32 : Nat) : Int) := by
    apply Int32.toBitVec_inj.mp
    rw [Int32.toBitVec_and, i32_bv, i32_bv ((n % 32 : Nat) : Int), BitVec.ofInt_natCast, BitVec.ofInt_natCast]
    show BitVec.ofNat 32 n &&& BitVec.ofNat 32 31 = _
    rw [← BitVec.ofNat_and, show (31 : Nat) = 2 ^ 5 - 1 by rfl, Nat.and_two_pow_sub_one_eq_mod]
  rw [e1, i32_toInt (by omega) (by omega)]
def sqb (m : xm) (s : Nat) : Bool := sbt (ld m 12 ((s / 32 : Nat) : Int)) (s % 32)
/-- the program's cells hold the queue -/
def CQ (m : xm) (q : List qe) : Prop := ld m 11 4 = q.length ∧ (∀ i : Nat, i < q.length → ld m 13 (i : Int) = (gd q i).1 ∧ ld m 14 (i : Int) = (gd q i).2.1 ∧ ld m 15 (i : Int) = (gd q i).2.2.1) ∧ ∀ s : Nat, s < 10000 → (sqb m s = true ↔ (s : Int) ∈ fsq q)
def fCQ (a : Nat) (k : Int) : Prop := (a = 11 ∧ k = 4) ∨ (12 ≤ a ∧ a ≤ 15)
theorem CQ_cg {m m' : xm} {q : List qe} (H : CQ m q) (e : ∀ a k, fCQ a k → m' a k = m a k) : CQ m' q := by
  have e1 := ldq (e 11 4 (Or.inl ⟨rfl, rfl⟩))
  have e2 : ∀ a k, 12 ≤ a → a ≤ 15 → ld m' a k = ld m a k := fun a k z1 z2 => ldq (e a k (Or.inr ⟨z1, z2⟩))
  obtain ⟨h1, h2, h3⟩ := H
  refine ⟨by rw [e1]; exact h1, fun i hi => ?_, fun s hs => ?_⟩
  · rw [e2 13 _ (by decide) (by decide), e2 14 _ (by decide) (by decide), e2 15 _ (by decide) (by decide)]
    exact h2 i hi
  · unfold sqb
    rw [e2 12 _ (by decide) (by decide)]
    exact h3 s hs
theorem cS_reach_ok {m : xm} {q : List qe} (H : CQ m q) {s : Nat} {p y : Int} (hs : s < 10000) (hp : rg p) (hy : rg y) (hl : q.length < 1296 ∨ (s : Int) ∈ fsq q) : ∃ m', cS_reach (s : Int) p y m = some (0, m') ∧ CQ m' (rch (s : Int) p y q) ∧ ∀ a k, ¬ fCQ a k → m' a k = m a k := by
  obtain ⟨h1, h2, h3⟩ := H
  have b := h3 s hs
  unfold cS_reach
  rw [xlt_eq, ban31_n (by omega), idv_nn (by omega) (by omega) (by decide) (by decide), show (s : Int) / 32 = ((s / 32 : Nat) : Int) by omega, cell_in (by omega) (by rw [al12]; omega), bnd_some]
  by_cases hq : (s : Int) ∈ fsq q
  · have : ¬ (ban (ld m 12 ((s / 32 : Nat) : Int)) (shl 1 ((s % 32 : Nat) : Int)) = 0) := fun z => by
      have := (ban_sbt (by omega)).mp z
      have t : sqb m s = true := b.mpr hq
      unfold sqb at t
      rw [t] at this
      exact absurd this (by decide)
    rw [if_neg this]
    unfold rch
    rw [if_pos hq]
    exact ⟨m, rfl, ⟨h1, h2, h3⟩, fun _ _ _ => rfl⟩
  · have hlen : q.length < 1296 := by
      rcases hl with z | z
      · exact z
      · exact absurd z hq
    have u : ban (ld m 12 ((s / 32 : Nat) : Int)) (shl 1 ((s % 32 : Nat) : Int)) = 0 := (ban_sbt (by omega)).mpr (Bool.eq_false_iff.mpr (fun z => hq (b.mp z)))
    obtain ⟨W, hW⟩ : ∃ W, bor (ld m 12 ((s / 32 : Nat) : Int)) (shl 1 ((s % 32 : Nat) : Int)) = W := ⟨_, rfl⟩
    rw [if_pos u, h1, if_pos (by omega), cell_in (by omega) (by rw [al12]; omega), bnd_some, setCell_in (by omega) (by rw [al12]; omega), bnd_some, hW]
    have l1 : ld (st m 12 ((s / 32 : Nat) : Int) W) 11 4 = q.length := by rw [ld_st_nc (by decide), h1]
    rw [l1, setCell_in (by omega) (by rw [al13]; omega), bnd_some, ld_st_nc (by decide), l1, setCell_in (by omega) (by rw [al14]; omega), bnd_some, ld_st_nc (by decide), ld_st_nc (by decide), l1, setCell_in (by omega) (by rw [al15]; omega), bnd_some, stf_eq, ld_st_nc (by decide), ld_st_nc (by decide), ld_st_nc (by decide), l1]
    unfold rch
    rw [if_neg hq]
    refine ⟨_, rfl, ⟨?_, fun i hi => ?_, fun t ht => ?_⟩, fun a k z => ?_⟩
    · rw [ld_st_eq, List.length_append, w32_id (by omega) (by omega)]
      rfl
    · rw [List.length_append] at hi
      have hi2 : i < q.length + 1 := hi
      by_cases e : i = q.length
      · subst e
        rw [gd_eq]
        refine ⟨?_, ?_, ?_⟩
        · rw [ld_st_nc (by decide), ld_st_nc (by decide), ld_st_nc (by decide), ld_st_eq, w32_id (by omega) (by omega)]
        · rw [ld_st_nc (by decide), ld_st_nc (by decide), ld_st_eq, w32_rg hp]
        · rw [ld_st_nc (by decide), ld_st_eq, w32_rg hy]
      · have hn : (i : Int) ≠ (q.length : Int) := by omega
        have h2i := h2 i (by omega)
        rw [gd_lt (by omega)]
        refine ⟨?_, ?_, ?_⟩
        · rw [ld_st_nc (by decide), ld_st_nc (by decide), ld_st_nc (by decide), ld_st_ne hn, ld_st_nc (by decide), h2i.1]
        · rw [ld_st_nc (by decide), ld_st_nc (by decide), ld_st_ne hn, ld_st_nc (by decide), ld_st_nc (by decide), h2i.2.1]
        · rw [ld_st_nc (by decide), ld_st_ne hn, ld_st_nc (by decide), ld_st_nc (by decide), ld_st_nc (by decide), h2i.2.2]
    · unfold sqb
      rw [ld_st_nc (by decide), ld_st_nc (by decide), ld_st_nc (by decide), ld_st_nc (by decide), fsq_app, List.mem_append, List.mem_singleton, ← h3 t ht]
      unfold sqb
      by_cases e : t / 32 = s / 32
      · rw [e, ld_st_eq, ← hW, bor_sbt (by omega) (by omega)]
        rw [Bool.or_eq_true, decide_eq_true_eq]
        constructor
        · rintro (z | z)
          · exact Or.inl z
          · exact Or.inr (by dsimp only; omega)
        · rintro (z | z)
          · exact Or.inl z
          · exact Or.inr (by dsimp only at z; omega)
      · rw [ld_st_ne (by omega)]
        constructor
        · exact fun z => Or.inl z
        · rintro (z | z)
          · exact z
          · dsimp only at z
            exact absurd z (by omega)
    · unfold fCQ at z
      rw [st_at (by omega), st_at (by omega), st_at (by omega), st_at (by omega), st_at (by omega)]
