/-! forbid: notes of a way, sets without them as bits of a long -/
theorem notes_loop {G : hv} {s0 : Int} {m : xm} {q : List qe} (w : wfG G) (Q : okQ G s0 q) (C : CQ m q) (hl : q.length ≤ 1296) : ∀ (r f i : Nat) {x : Int}, i < q.length → r < f → (gd q i).2.2.2 = (r : Int) → 0 ≤ x → x < 64 → cS_notesTo_11 f x (i : Int) (r : Int) m = some (nts q r i x, m) ∧ 0 ≤ nts q r i x ∧ nts q r i x < 64 := by
  have gN := w.2.1
  intro r
  induction r with
  | zero =>
    intro f i x hi hf hd x0 x1
    obtain ⟨f, rfl⟩ : ∃ f', f = f' + 1 := ⟨f - 1, by omega⟩
    rw [cS_notesTo_11, if_pos (by decide)]
    exact ⟨rfl, x0, x1⟩
  | succ r ih =>
    intro f i x hi hf hd x0 x1
    obtain ⟨f, rfl⟩ : ∃ f', f = f' + 1 := ⟨f - 1, by omega⟩
    have b := Q.2.1 i hi
    have bd := b.2.2.1
    have i0 : 0 < i := by omega
    obtain ⟨p1, p2, p3, p4, p5⟩ := b.2.2.2 i0
    have ci := C.2.1 i hi
    obtain ⟨j, hj⟩ : ∃ j : Nat, (gd q i).2.1 = (j : Int) := ⟨(gd q i).2.1.toNat, by omega⟩
    have rg6 : 0 ≤ sb x (gd q i).2.2.1 ∧ sb x (gd q i).2.2.1 < 64 := by
      obtain ⟨a, ha, rfl⟩ := nat2 (n := 64) x0 x1
      obtain ⟨c, hc, e⟩ := nat2 (n := 6) p3 (by omega)
      rw [e]
      exact (sb_bt0 a ha c hc).2
    rw [cS_notesTo_11, w32_id (x := ((r + 1 : Nat) : Int)) (by omega) (by omega), if_neg (by omega), cell_in (by omega) (by rw [al15]; omega), bnd_some, ci.2.2, xlt_eq, bor_sb x0 x1 p3 (by omega), cell_in (by omega) (by rw [al14]; omega), bnd_some, ci.2.1, nts, hj, Int.toNat_natCast, show ((r + 1 : Nat) : Int) + -1 = (r : Int) by omega]
    rw [hj] at p2 p5
    rw [Int.toNat_natCast] at p5
    exact ih f j (by omega) (by omega) (by omega) rg6.1 rg6.2
theorem cS_notesTo_ok {G : hv} {s0 : Int} {m : xm} {q : List qe} (w : wfG G) (Q : okQ G s0 q) (C : CQ m q) {i : Nat} (hi : i < q.length) : cS_notesTo (i : Int) m = some (nts q (gd q i).2.2.2.toNat i 0, m) ∧ 0 ≤ nts q (gd q i).2.2.2.toNat i 0 ∧ nts q (gd q i).2.2.2.toNat i 0 < 64 := by
  have hl := okQ_len w Q
  have b := (Q.2.1 i hi).2.2.1
  have k := notes_loop w Q C hl (gd q i).2.2.2.toNat xLF i (x := 0) hi (by rw [xLF_eq]; omega) (by omega) (by decide) (by decide)
  unfold cS_notesTo
  rw [cS_lengthTo_ok w Q C hi, bnd_some]
  rw [show (((gd q i).2.2.2.toNat : Nat) : Int) = (gd q i).2.2.2 by omega] at k
  exact k
def lbt (x : Int) (j : Nat) : Bool := (i64 x).toBitVec.getLsbD j
theorem lbo_i (x y : Int) : i64 (lbo x y) = i64 x ||| i64 y := Int64.ofInt_toInt _
theorem lan_i (x y : Int) : i64 (lan x y) = i64 x &&& i64 y := Int64.ofInt_toInt _
theorem lsl_tp0 : ∀ i : Nat, i < 64 → (i64 (lsl 1 (i : Int))).toBitVec = BitVec.twoPow 64 i := by decide +kernel
theorem lsr_sh0 : ∀ j : Nat, j < 64 → ((i32 (j : Int)).toInt64 &&& 63).toBitVec.smod 64 = BitVec.ofNat 64 j := by decide +kernel
theorem lsr_bit {x : Int} {j : Nat} (hj : j < 64) : (i64 (lsr x (j : Int))).toBitVec.getLsbD 0 = lbt x j := by
  have e : i64 (lsr x (j : Int)) = i64 x >>> ((i32 (j : Int)).toInt64 &&& 63) := Int64.ofInt_toInt _
  rw [e, Int64.toBitVec_shiftRight, lsr_sh0 j hj, BitVec.sshiftRight_eq', BitVec.getLsbD_sshiftRight, BitVec.toNat_ofNat, Nat.mod_eq_of_lt (by omega)]
  unfold lbt
  simp [hj]
theorem lan_bit {x : Int} {j : Nat} (hj : j < 64) : lan (lsr x (j : Int)) 1 = 1 ↔ lbt x j = true := by
  have e : (i64 (lan (lsr x (j : Int)) 1)).toBitVec = if lbt x j = true then BitVec.twoPow 64 0 else 0#64 := by
    rw [lan_i, Int64.toBitVec_and, show (i64 1).toBitVec = BitVec.twoPow 64 0 from rfl, BitVec.and_twoPow, lsr_bit hj]
  have e4 : w64 (lan (lsr x (j : Int)) 1) = lan (lsr x (j : Int)) 1 := w64_of _
  constructor
  · intro h
    rw [h] at e
    refine Decidable.byContradiction fun z => ?_
    rw [if_neg z] at e
    exact absurd e (by decide)
  · intro h
    rw [if_pos h] at e
    have e2 : i64 (lan (lsr x (j : Int)) 1) = i64 1 := Int64.toBitVec_inj.mp e
    have e3 : w64 (lan (lsr x (j : Int)) 1) = w64 1 := congrArg Int64.toInt e2
    rw [e4] at e3
    exact e3
theorem lbo_bit {x y : Int} {j : Nat} : lbt (lbo x y) j = (lbt x j || lbt y j) := by
  unfold lbt
  rw [lbo_i, Int64.toBitVec_or, BitVec.getLsbD_or]
theorem lbt_0 (j : Nat) : lbt 0 j = false := by
  unfold lbt
  show (0#64).getLsbD j = false
  exact BitVec.getLsbD_zero
theorem lbt_tp {i j : Nat} (hi : i < 64) (hj : j < 64) : lbt (lsl 1 (i : Int)) j = decide (i = j) := by
  unfold lbt
  rw [lsl_tp0 i hi, BitVec.getLsbD_twoPow]
  simp [hi]
theorem sets_loop {N : Int} {m : xm} : ∀ (f k : Nat) {x : Int}, k ≤ 64 → 64 - k < f → (∀ j, j < k → (lbt x j = true ↔ ban (j : Int) N = 0)) → (∀ j, k ≤ j → j < 64 → lbt x j = false) → ∃ y, cL_setsWithout_4 f N x (k : Int) m = some (y, m) ∧ ∀ j, j < 64 → (lbt y j = true ↔ ban (j : Int) N = 0) := by
  intro f
  induction f with
  | zero => intro k x _ hf; omega
  | succ f ih =>
    intro k x hk hf h1 h2
    rw [cL_setsWithout_4, w32_id (x := (k : Int)) (by omega) (by omega)]
    by_cases e : (64 : Int) ≤ (k : Int)
    · rw [if_pos e]
      exact ⟨x, rfl, fun j hj => h1 j (by omega)⟩
    · rw [if_neg e]
      unfold cL_setsWithout_24
      rw [xlt_eq, xlt_eq]
      have hk64 : k < 64 := by omega
      by_cases c : ban (k : Int) N = 0
      · rw [if_pos c]
        refine ih (k + 1) (x := lbo x (lsl 1 (k : Int))) (by omega) (by omega) (fun j hj => ?_) (fun j hj hj2 => ?_)
        · rw [lbo_bit, lbt_tp hk64 (by omega)]
          by_cases ej : j = k
          · subst ej
            simp [c]
          · have := h1 j (by omega)
            have z : ¬ k = j := fun y => ej y.symm
            simp [z, this]
        · rw [lbo_bit, lbt_tp hk64 (by omega), h2 j (by omega) hj2]
          have z : ¬ k = j := by omega
          simp [z]
      · rw [if_neg c]
        refine ih (k + 1) (x := lbo x 0) (by omega) (by omega) (fun j hj => ?_) (fun j hj hj2 => ?_)
        · rw [lbo_bit, lbt_0, Bool.or_false]
          by_cases ej : j = k
          · subst ej
            rw [h2 j (Nat.le_refl _) (by omega)]
            simp [c]
          · exact h1 j (by omega)
        · rw [lbo_bit, lbt_0, Bool.or_false]
          exact h2 j (by omega) hj2
theorem cL_setsWithout_ok {N : Int} {m : xm} : ∃ y, cL_setsWithout N m = some (y, m) ∧ ∀ j, j < 64 → (lbt y j = true ↔ ban (j : Int) N = 0) := sets_loop xLF 0 (by omega) (by rw [xLF_eq]; omega) (fun j hj => by omega) (fun j _ _ => lbt_0 j)
