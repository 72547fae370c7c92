/-! runs in the form 'it ends, and so is what comes behind' -/
def am_k (E : am_Env) (d : Nat) (M : am_M) (C : am_C) (K : Option Value → am_H → Prop) : Prop := ∃ (r : Option Value) (hp1 : am_H), am_end E d M C r hp1 ∧ K r hp1
section AMK
variable {E : am_Env} {d : Nat} {M N : am_M} {hp : am_H} {C : am_C} {K : Option Value → am_H → Prop}
theorem am_k_e (n : Nat) {C' : am_C} (h : am_sts E M n C = some C') (k : am_k E d M C' K) : am_k E d M C K := by
  obtain ⟨r, hp1, h1, h2⟩ := k
  exact ⟨r, hp1, am_ev n h h1, h2⟩
theorem am_k_ret {pc : Nat} {ls : am_L} {st : List Value} {i : Instr} {r : Option Value} (hi : (am_cd M).lookup pc = some i) (h : am_ret M i st = some r) (k : K r hp) : am_k E d M (pc, ls, st, hp) K := ⟨r, hp, am_e_ret hi h, k⟩
theorem am_k_call {pc : Nat} {ls : am_L} {st : List Value} {i : Instr} {j : Nat} {v : Bool} (as rest : List Value) (hi : (am_cd M).lookup pc = some i) (hr : am_ret M i st = none) (hc : am_cal M i = some (j, v)) (hN : am_tab j = some N) (hs : as.reverse ++ rest = st) (hl : as.length = am_na N)
    (hcat : (rest.map fun v => v.category).sum ≤ 8) (hrc : v = true → am_rcv N as hp = true) (hml : (lg_sl as).length ≤ am_ml N) (h1 : am_k E d N (0, lv_args 0 as, [], hp) (fun r1 hp2 => am_k E (d + 1) M (pc + 3, ls, r1.toList ++ rest, hp2) K)) : am_k E (d + 1) M (pc, ls, st, hp) K := by
  obtain ⟨r1, hp2, g1, r, hp1, g2, g3⟩ := h1
  exact ⟨r, hp1, am_e_call as rest hi hr hc hN hs hl hcat hrc hml g1 g2, g3⟩
theorem am_k_if {pc : Nat} {ls : am_L} {x : Int32} {st : List Value} {cd : ClassFile.Cond} {off : Int} {t : Nat} (hi : (am_cd M).lookup pc = some (.ifCond cd off)) (ht : am_to pc off = some t) (h1 : am_cc2 cd x 0 = true → am_k E d M (t, ls, st, hp) K) (h2 : am_cc2 cd x 0 = false → am_k E d M (pc + 3, ls, st, hp) K) : am_k E d M (pc, ls, .int x :: st, hp) K := by
  cases hc : am_cc2 cd x 0 with
  | true =>
    obtain ⟨r, hp1, g1, g2⟩ := h1 hc
    exact ⟨r, hp1, am_e_if hi ht (fun _ => g1) (fun z => by rw [hc] at z; cases z), g2⟩
  | false =>
    obtain ⟨r, hp1, g1, g2⟩ := h2 hc
    exact ⟨r, hp1, am_e_if hi ht (fun z => by rw [hc] at z; cases z) (fun _ => g1), g2⟩
theorem am_k_icmp {pc : Nat} {ls : am_L} {x y : Int32} {st : List Value} {cd : ClassFile.Cond} {off : Int} {t : Nat} (hi : (am_cd M).lookup pc = some (.if_icmp cd off)) (ht : am_to pc off = some t) (h1 : am_cc2 cd x y = true → am_k E d M (t, ls, st, hp) K) (h2 : am_cc2 cd x y = false → am_k E d M (pc + 3, ls, st, hp) K) : am_k E d M (pc, ls, .int y :: .int x :: st, hp) K := by
  cases hc : am_cc2 cd x y with
  | true =>
    obtain ⟨r, hp1, g1, g2⟩ := h1 hc
    exact ⟨r, hp1, am_e_icmp hi ht (fun _ => g1) (fun z => by rw [hc] at z; cases z), g2⟩
  | false =>
    obtain ⟨r, hp1, g1, g2⟩ := h2 hc
    exact ⟨r, hp1, am_e_icmp hi ht (fun z => by rw [hc] at z; cases z) (fun _ => g1), g2⟩
theorem am_k_ifT {pc : Nat} {ls : am_L} {x : Int32} {st : List Value} {cd : ClassFile.Cond} {off : Int} {t : Nat} (hi : (am_cd M).lookup pc = some (.ifCond cd off)) (ht : am_to pc off = some t) (hc : am_cc2 cd x 0 = true) (h1 : am_k E d M (t, ls, st, hp) K) : am_k E d M (pc, ls, .int x :: st, hp) K := am_k_if hi ht (fun _ => h1) (fun z => by rw [hc] at z; cases z)
theorem am_k_ifF {pc : Nat} {ls : am_L} {x : Int32} {st : List Value} {cd : ClassFile.Cond} {off : Int} {t : Nat} (hi : (am_cd M).lookup pc = some (.ifCond cd off)) (ht : am_to pc off = some t) (hc : am_cc2 cd x 0 = false) (h1 : am_k E d M (pc + 3, ls, st, hp) K) : am_k E d M (pc, ls, .int x :: st, hp) K := am_k_if hi ht (fun z => by rw [hc] at z; cases z) (fun _ => h1)
theorem am_k_icmpT {pc : Nat} {ls : am_L} {x y : Int32} {st : List Value} {cd : ClassFile.Cond} {off : Int} {t : Nat} (hi : (am_cd M).lookup pc = some (.if_icmp cd off)) (ht : am_to pc off = some t) (hc : am_cc2 cd x y = true) (h1 : am_k E d M (t, ls, st, hp) K) : am_k E d M (pc, ls, .int y :: .int x :: st, hp) K := am_k_icmp hi ht (fun _ => h1) (fun z => by rw [hc] at z; cases z)
theorem am_k_icmpF {pc : Nat} {ls : am_L} {x y : Int32} {st : List Value} {cd : ClassFile.Cond} {off : Int} {t : Nat} (hi : (am_cd M).lookup pc = some (.if_icmp cd off)) (ht : am_to pc off = some t) (hc : am_cc2 cd x y = false) (h1 : am_k E d M (pc + 3, ls, st, hp) K) : am_k E d M (pc, ls, .int y :: .int x :: st, hp) K := am_k_icmp hi ht (fun z => by rw [hc] at z; cases z) (fun _ => h1)
/-- a load from a row at a place that is only known to be in it -/
theorem am_k_iald {pc : Nat} {ls : am_L} {j : Int32} {a n : Nat} {f : Nat → Int32} {st : List Value} {v : Int32} (hi : (am_cd M).lookup pc = some .iaload) (ha : a < 1000000) (hc : hp[a]? = some (.inl (0, n, .inl f))) (hj : am_in j n = true) (hv : f j.toNatClampNeg = v) (k : am_k E d M (pc + 1, ls, .int v :: st, hp) K) : am_k E d M (pc, ls, .int j :: .ref a :: st, hp) K := by
  refine am_k_e 1 (C' := (pc + 1, ls, .int v :: st, hp)) ?_ k
  subst hv
  simp only [am_sts, am_stp, hi, am_ret, am_cal, am_one, if_pos ha, hc, hj, if_true]
/-- a switch -/
theorem am_k_sw {pc : Nat} {ls : am_L} {x : Int32} {st : List Value} {dflt lo hi : Int} {offs : Array Int} (hl : (am_cd M).lookup pc = some (.tableswitch dflt lo hi offs)) {t0 : Nat} (ht0 : am_to pc dflt = some t0) (h0 : (x.toInt < lo ∨ hi < x.toInt) → am_k E d M (t0, ls, st, hp) K)
    (h1 : ∀ (off : Int) (t : Nat), ¬ (x.toInt < lo ∨ hi < x.toInt) → offs[(x.toInt - lo).toNat]? = some off → am_to pc off = some t → am_k E d M (t, ls, st, hp) K) (hok : ¬ (x.toInt < lo ∨ hi < x.toInt) → ∃ off t, offs[(x.toInt - lo).toNat]? = some off ∧ am_to pc off = some t) : am_k E d M (pc, ls, .int x :: st, hp) K := by
  by_cases h : x.toInt < lo ∨ hi < x.toInt
  · refine am_k_e 1 (C' := (t0, ls, st, hp)) ?_ (h0 h)
    simp only [am_sts, am_stp, hl, am_ret, am_cal, am_one, if_pos h, ht0]
  · obtain ⟨off, t, e1, e2⟩ := hok h
    refine am_k_e 1 (C' := (t, ls, st, hp)) ?_ (h1 off t h e1 e2)
    simp only [am_sts, am_stp, hl, am_ret, am_cal, am_one, if_neg h, e1, e2]
end AMK
/-! conditions as words on numbers -/
theorem cc_lt {x y : Int32} : am_cc2 .lt x y = true ↔ x.toInt < y.toInt := by simp [am_cc2, Int32.lt_iff_toInt_lt]
theorem cc_ge {x y : Int32} : am_cc2 .ge x y = true ↔ y.toInt ≤ x.toInt := by simp [am_cc2, Int32.le_iff_toInt_le]
theorem cc_gt {x y : Int32} : am_cc2 .gt x y = true ↔ y.toInt < x.toInt := by simp [am_cc2, Int32.lt_iff_toInt_lt]
theorem cc_le {x y : Int32} : am_cc2 .le x y = true ↔ x.toInt ≤ y.toInt := by simp [am_cc2, Int32.le_iff_toInt_le]
theorem cc_eq {x y : Int32} : am_cc2 .eq x y = true ↔ x.toInt = y.toInt := by simp [am_cc2, Int32.toInt_inj]
theorem cc_ne {x y : Int32} : am_cc2 .ne x y = true ↔ ¬ x.toInt = y.toInt := by simp [am_cc2, Int32.toInt_inj]
theorem cc_F {cd : ClassFile.Cond} {x y : Int32} : am_cc2 cd x y = false ↔ ¬ am_cc2 cd x y = true := by cases am_cc2 cd x y <;> simp
theorem cc_cmp (x : Int32) (c : Int64) : (lg_cmp x.toInt64 c).toInt = if x.toInt < c.toInt then -1 else if x.toInt = c.toInt then 0 else 1 := by
  have hx : x.toInt64.toInt = x.toInt := Int32.toInt_toInt64 x
  unfold lg_cmp
  simp only [gt_iff_lt, Int64.lt_iff_toInt_lt, ← Int64.toInt_inj, hx]
  by_cases h1 : c.toInt < x.toInt
  · rw [if_pos h1, if_neg (by omega), if_neg (by omega)]
    rfl
  · rw [if_neg h1]
    by_cases h2 : x.toInt = c.toInt
    · rw [if_pos h2, if_neg (by omega), if_pos h2]
      rfl
    · rw [if_neg h2, if_pos (by omega)]
      rfl
theorem am_in_of {k : Int32} {n : Nat} (h1 : 0 ≤ k.toInt) (h2 : k.toInt < n) : am_in k n = true := by
  have := vp_in_iff.mpr ⟨h1, h2⟩
  exact decide_eq_true this
