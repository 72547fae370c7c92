/-! rows for cells that are known by a hypothesis only; the two long loops; conditions -/
section AMN
variable {E : am_Env} {d : Nat} {M N : am_M} {hp : am_H} {C : am_C} {K : Option Value → am_H → Prop}
theorem am_k_getf {pc x ci k o : Nat} {ls : am_L} {st fs : List Value} {v : Value} (hi : (am_cd M).lookup pc = some (.getfield x)) (hpl : am_pl (am_o M) x = some (0, ci, k)) (ho : o < 1000000) (hc : hp[o]? = some (.inr (ci, fs))) (hv : fs[k]? = some v) (kk : am_k E d M (pc + 3, ls, v :: st, hp) K) : am_k E d M (pc, ls, .ref o :: st, hp) K := by
  refine am_k_e 1 (C' := (pc + 3, ls, v :: st, hp)) ?_ kk
  simp only [am_sts, am_stp, hi, am_ret, am_cal, am_one, hpl, if_pos ho, hc, hv, if_true]
theorem am_k_iast {pc a n : Nat} {ls : am_L} {st : List Value} {f : Nat → Int32} {j x : Int32} (hi : (am_cd M).lookup pc = some .iastore) (ha : a < 1000000) (hc : hp[a]? = some (.inl (0, n, .inl f))) (hj : am_in j n = true) (kk : am_k E d M (pc + 1, ls, st, hp.set a (.inl (0, n, .inl (upd f j.toNatClampNeg x)))) K) : am_k E d M (pc, ls, .int x :: .int j :: .ref a :: st, hp) K := by
  refine am_k_e 1 (C' := (pc + 1, ls, st, hp.set a (.inl (0, n, .inl (upd f j.toNatClampNeg x))))) ?_ kk
  simp only [am_sts, am_stp, hi, am_ret, am_cal, am_one, if_pos ha, hc, hj, if_true]
theorem am_k_alen {pc a n t : Nat} {ls : am_L} {st : List Value} {f : _} (hi : (am_cd M).lookup pc = some .arraylength) (ha : a < 1000000) (hc : hp[a]? = some (.inl (t, n, f))) (ht : t < 4) (kk : am_k E d M (pc + 1, ls, .int (Int32.ofNat n) :: st, hp) K) : am_k E d M (pc, ls, .ref a :: st, hp) K := by
  refine am_k_e 1 (C' := (pc + 1, ls, .int (Int32.ofNat n) :: st, hp)) ?_ kk
  simp only [am_sts, am_stp, hi, am_ret, am_cal, am_one, if_pos ha, hc, if_pos ht]
theorem am_k_sld {pc a n : Nat} {ls : am_L} {st : List Value} {f : Nat → Int32} {j v : Int32} (hi : (am_cd M).lookup pc = some .iaload) (ha : ¬ a < 1000000) (hc : E a = some (0, n, f)) (hj : am_in j n = true) (hv : f j.toNatClampNeg = v) (kk : am_k E d M (pc + 1, ls, .int v :: st, hp) K) : am_k E d M (pc, ls, .int j :: .ref a :: st, hp) K := by
  refine am_k_e 1 (C' := (pc + 1, ls, .int v :: st, hp)) ?_ kk
  subst hv
  simp only [am_sts, am_stp, hi, am_ret, am_cal, am_one, if_neg ha, hc, hj, if_true]
theorem am_k_swO {pc : Nat} {ls : am_L} {x : Int32} {st : List Value} {dflt lo hi : Int} {offs : Array Int} {t0 : Nat} (hl : (am_cd M).lookup pc = some (.tableswitch dflt lo hi offs)) (ht0 : am_to pc dflt = some t0) (h : x.toInt < lo ∨ hi < x.toInt) (kk : am_k E d M (t0, ls, st, hp) K) : am_k E d M (pc, ls, .int x :: st, hp) K := by
  refine am_k_e 1 (C' := (t0, ls, st, hp)) ?_ kk
  simp only [am_sts, am_stp, hl, am_ret, am_cal, am_one, if_pos h, ht0]
theorem am_set_at {a : Nat} {e e0 : va_E} (h : hp[a]? = some e0) : (hp.set a e)[a]? = some e := by
  rw [List.getElem?_set_self (List.getElem?_eq_some_iff.mp h).1]
/-- java.util.Arrays.fill -/
theorem k_fill_l {a n : Nat} {f : Nat → Int32} {v : Int32} (hn : n < 2 ^ 31) (ha : a < 1000000) (hc : hp[a]? = some (.inl (0, n, .inl f))) (k : K none (hp.set a (.inl (0, n, .inl (fun j => if j < n then v else f j))))) : ∀ (m i : Nat), i + m = n → am_k E d am_m320 (5, [(2, .int (nI i)), (3, .int (nI n)), (0, .ref a), (1, .int v)], [], hp.set a (.inl (0, n, .inl (fun j => if j < i then v else f j)))) K := by
  intro m
  induction m with
  | zero =>
    intro i hi
    obtain rfl : i = n := by omega
    refine am_k_e 2 (C' := (7, [(2, .int (nI i)), (3, .int (nI i)), (0, .ref a), (1, .int v)], [.int (nI i), .int (nI i)], hp.set a (.inl (0, i, .inl (fun j => if j < i then v else f j))))) rfl ?_
    refine am_k_icmpT rfl rfl (cc_ge.mpr (Int.le_refl _)) ?_
    exact am_k_ret (r := none) rfl rfl k
  | succ m ih =>
    intro i hi
    refine am_k_e 2 (C' := (7, [(2, .int (nI i)), (3, .int (nI n)), (0, .ref a), (1, .int v)], [.int (nI n), .int (nI i)], hp.set a (.inl (0, n, .inl (fun j => if j < i then v else f j))))) rfl ?_
    refine am_k_icmpF rfl rfl (cc_F.mpr (fun z => ?_)) ?_
    · have := cc_ge.mp z
      rw [nI_toInt (by omega), nI_toInt (by omega)] at this
      omega
    refine am_k_e 3 (C' := (13, [(2, .int (nI i)), (3, .int (nI n)), (0, .ref a), (1, .int v)], [.int v, .int (nI i), .ref a], hp.set a (.inl (0, n, .inl (fun j => if j < i then v else f j))))) rfl ?_
    refine am_k_iast rfl ha (am_set_at hc) (am_in_of (by rw [nI_toInt (by omega)]; omega) (by rw [nI_toInt (by omega)]; omega)) ?_
    rw [List.set_set, nI_clamp (by omega)]
    have e1 : upd (fun j => if j < i then v else f j) i v = fun j => if j < i + 1 then v else f j := by
      funext j
      unfold upd
      by_cases h1 : j = i
      · rw [if_pos h1, if_pos (by omega)]
      · rw [if_neg h1]
        dsimp only
        by_cases h2 : j < i
        · rw [if_pos h2, if_pos (by omega)]
        · rw [if_neg h2, if_neg (by omega)]
    rw [e1]
    refine am_k_e 2 (C' := (5, [(2, .int (nI i + 1)), (3, .int (nI n)), (0, .ref a), (1, .int v)], [], hp.set a (.inl (0, n, .inl (fun j => if j < i + 1 then v else f j))))) rfl ?_
    rw [nI_1]
    exact ih (i + 1) (by omega)
theorem k_fill {a n : Nat} {f : Nat → Int32} {v : Int32} (hn : n < 2 ^ 31) (ha : a < 1000000) (hc : hp[a]? = some (.inl (0, n, .inl f))) (k : K none (hp.set a (.inl (0, n, .inl (fun j => if j < n then v else f j))))) : am_k E d am_m320 (0, [(0, .ref a), (1, .int v)], [], hp) K := by
  refine am_k_e 3 (C' := (3, [(2, .int 0), (0, .ref a), (1, .int v)], [.ref a], hp)) rfl ?_
  refine am_k_alen rfl ha hc (by decide) ?_
  have e0 : hp = hp.set a (.inl (0, n, .inl (fun j => if j < 0 then v else f j))) := by
    have hlt := (List.getElem?_eq_some_iff.mp hc).1
    have h2 : hp[a] = .inl (0, n, .inl f) := (List.getElem?_eq_some_iff.mp hc).2
    have h3 : (fun j => if j < 0 then v else f j) = f := by
      funext j
      rw [if_neg (Nat.not_lt_zero j)]
    rw [h3, ← h2, List.set_getElem_self]
  refine am_k_e 3 (C' := (7, [(3, .int (nI n)), (2, .int 0), (0, .ref a), (1, .int v)], [.int (nI n), .int 0], hp)) rfl ?_
  by_cases hz : n = 0
  · subst hz
    refine am_k_icmpT rfl rfl (cc_ge.mpr (Int.le_refl _)) ?_
    refine am_k_ret (r := none) rfl rfl ?_
    rw [← e0] at k
    exact k
  · refine am_k_icmpF rfl rfl (cc_F.mpr (fun z => ?_)) ?_
    · have := cc_ge.mp z
      rw [nI_toInt (by omega)] at this
      have h0 : (0 : Int32).toInt = 0 := rfl
      omega
    refine am_k_e 3 (C' := (13, [(3, .int (nI n)), (2, .int 0), (0, .ref a), (1, .int v)], [.int v, .int 0, .ref a], hp)) rfl ?_
    refine am_k_iast rfl ha hc (am_in_of (Int.le_refl _) (by show (0 : Int) < n; omega)) ?_
    have e1 : upd f (0 : Int32).toNatClampNeg v = fun j => if j < 1 then v else f j := by
      funext j
      unfold upd
      show (if j = 0 then v else f j) = _
      by_cases h1 : j = 0
      · rw [if_pos h1, if_pos (by omega)]
      · rw [if_neg h1, if_neg (by omega)]
    rw [e1]
    refine am_k_e 2 (C' := (5, [(2, .int (nI 1)), (3, .int (nI n)), (0, .ref a), (1, .int v)], [], hp.set a (.inl (0, n, .inl (fun j => if j < 1 then v else f j))))) rfl ?_
    exact k_fill_l hn ha hc k (n - 1) 1 (by omega)
/-- the first loop of the reference's seeks -/
theorem k_seek_l {o a : Nat} {f : Nat → Int32} {fs : List Value} {w g t : Int32} (ho : o < 1000000) (ha : a < 1000000) (hoa : o ≠ a) (hob : hp[o]? = some (.inr (12, fs))) (hfs : fs[51]? = some (.ref a)) (hc : hp[a]? = some (.inl (0, 10000, .inl f)))
    (k : am_k E d am_m267 (25, [(4, .int (nI 10000)), (0, .ref o), (1, .int w), (2, .int g), (3, .int t)], [], hp.set a (.inl (0, 10000, .inl (fun j => if j < 10000 then -1 else f j)))) K) : ∀ (m i : Nat), i + m = 10000 → am_k E d am_m267 (3, [(4, .int (nI i)), (0, .ref o), (1, .int w), (2, .int g), (3, .int t)], [], hp.set a (.inl (0, 10000, .inl (fun j => if j < i then -1 else f j)))) K := by
  intro m
  induction m with
  | zero =>
    intro i hi
    obtain rfl : i = 10000 := by omega
    refine am_k_e 2 (C' := (8, [(4, .int (nI 10000)), (0, .ref o), (1, .int w), (2, .int g), (3, .int t)], [.int 10000, .int (nI 10000)], hp.set a (.inl (0, 10000, .inl (fun j => if j < 10000 then -1 else f j))))) rfl ?_
    exact am_k_icmpT rfl rfl (cc_ge.mpr (by decide)) k
  | succ m ih =>
    intro i hi
    refine am_k_e 2 (C' := (8, [(4, .int (nI i)), (0, .ref o), (1, .int w), (2, .int g), (3, .int t)], [.int 10000, .int (nI i)], hp.set a (.inl (0, 10000, .inl (fun j => if j < i then -1 else f j))))) rfl ?_
    refine am_k_icmpF rfl rfl (cc_F.mpr (fun z => ?_)) ?_
    · have := cc_ge.mp z
      rw [nI_toInt (by omega)] at this
      have h0 : (10000 : Int32).toInt = 10000 := rfl
      omega
    refine am_k_e 1 (C' := (12, [(4, .int (nI i)), (0, .ref o), (1, .int w), (2, .int g), (3, .int t)], [.ref o], hp.set a (.inl (0, 10000, .inl (fun j => if j < i then -1 else f j))))) rfl ?_
    refine am_k_getf rfl rfl ho (by rw [List.getElem?_set_ne (Ne.symm hoa)]; exact hob) hfs ?_
    refine am_k_e 2 (C' := (18, [(4, .int (nI i)), (0, .ref o), (1, .int w), (2, .int g), (3, .int t)], [.int (-1), .int (nI i), .ref a], hp.set a (.inl (0, 10000, .inl (fun j => if j < i then -1 else f j))))) rfl ?_
    refine am_k_iast rfl ha (am_set_at hc) (am_in_of (by rw [nI_toInt (by omega)]; omega) (by rw [nI_toInt (by omega)]; omega)) ?_
    rw [List.set_set, nI_clamp (by omega)]
    have e1 : upd (fun j => if j < i then -1 else f j) i (-1) = fun j => if j < i + 1 then -1 else f j := by
      funext j
      unfold upd
      by_cases h1 : j = i
      · rw [if_pos h1, if_pos (by omega)]
      · rw [if_neg h1]
        dsimp only
        by_cases h2 : j < i
        · rw [if_pos h2, if_pos (by omega)]
        · rw [if_neg h2, if_neg (by omega)]
    rw [e1]
    refine am_k_e 2 (C' := (3, [(4, .int (nI i + 1)), (0, .ref o), (1, .int w), (2, .int g), (3, .int t)], [], hp.set a (.inl (0, 10000, .inl (fun j => if j < i + 1 then -1 else f j))))) rfl ?_
    rw [nI_1]
    exact ih (i + 1) (by omega)
theorem k_seek {o a : Nat} {f : Nat → Int32} {fs : List Value} {w g t : Int32} (ho : o < 1000000) (ha : a < 1000000) (hoa : o ≠ a) (hob : hp[o]? = some (.inr (12, fs))) (hfs : fs[51]? = some (.ref a)) (hc : hp[a]? = some (.inl (0, 10000, .inl f)))
    (k : am_k E d am_m267 (25, [(4, .int (nI 10000)), (0, .ref o), (1, .int w), (2, .int g), (3, .int t)], [], hp.set a (.inl (0, 10000, .inl (fun j => if j < 10000 then -1 else f j)))) K) : am_k E d am_m267 (0, [(0, .ref o), (1, .int w), (2, .int g), (3, .int t)], [], hp) K := by
  have e0 : hp = hp.set a (.inl (0, 10000, .inl (fun j => if j < 0 then -1 else f j))) := by
    have h2 : hp[a]'((List.getElem?_eq_some_iff.mp hc).1) = .inl (0, 10000, .inl f) := (List.getElem?_eq_some_iff.mp hc).2
    have h3 : (fun j => if j < 0 then -1 else f j) = f := by
      funext j
      rw [if_neg (Nat.not_lt_zero j)]
    rw [h3, ← h2, List.set_getElem_self]
  have k2 := k_seek_l (E := E) (d := d) (K := K) ho ha hoa hob hfs hc k 10000 0 (by omega)
  rw [← e0] at k2
  exact am_k_e 2 (C' := (3, [(4, .int (nI 0)), (0, .ref o), (1, .int w), (2, .int g), (3, .int t)], [], hp)) rfl k2
end AMN
theorem ccT_lt {x y : Int32} (h : am_cc2 .lt x y = true) : x.toInt < y.toInt := cc_lt.mp h
theorem ccF_lt {x y : Int32} (h : am_cc2 .lt x y = false) : y.toInt ≤ x.toInt := Int.not_lt.mp (fun z => cc_F.mp h (cc_lt.mpr z))
theorem ccT_ge {x y : Int32} (h : am_cc2 .ge x y = true) : y.toInt ≤ x.toInt := cc_ge.mp h
theorem ccF_ge {x y : Int32} (h : am_cc2 .ge x y = false) : x.toInt < y.toInt := Int.not_le.mp (fun z => cc_F.mp h (cc_ge.mpr z))
theorem ccT_gt {x y : Int32} (h : am_cc2 .gt x y = true) : y.toInt < x.toInt := cc_gt.mp h
theorem ccF_gt {x y : Int32} (h : am_cc2 .gt x y = false) : x.toInt ≤ y.toInt := Int.not_lt.mp (fun z => cc_F.mp h (cc_gt.mpr z))
theorem ccT_le {x y : Int32} (h : am_cc2 .le x y = true) : x.toInt ≤ y.toInt := cc_le.mp h
theorem ccF_le {x y : Int32} (h : am_cc2 .le x y = false) : y.toInt < x.toInt := Int.not_le.mp (fun z => cc_F.mp h (cc_le.mpr z))
theorem ccT_eq {x y : Int32} (h : am_cc2 .eq x y = true) : x.toInt = y.toInt := cc_eq.mp h
theorem ccF_eq {x y : Int32} (h : am_cc2 .eq x y = false) : ¬ x.toInt = y.toInt := fun z => cc_F.mp h (cc_eq.mpr z)
theorem ccT_ne {x y : Int32} (h : am_cc2 .ne x y = true) : ¬ x.toInt = y.toInt := cc_ne.mp h
theorem ccF_ne {x y : Int32} (h : am_cc2 .ne x y = false) : x.toInt = y.toInt := Decidable.byContradiction (fun z => cc_F.mp h (cc_ne.mpr z))
/-- the sign of lcmp -/
theorem lgT_lt {x : Int32} {c : Int64} (h : am_cc2 .lt (lg_cmp x.toInt64 c) 0 = true) : x.toInt < c.toInt := by
  have h1 : _ < (0 : Int) := ccT_lt h
  rw [cc_cmp] at h1
  split at h1
  · assumption
  · split at h1 <;> omega
theorem lgF_lt {x : Int32} {c : Int64} (h : am_cc2 .lt (lg_cmp x.toInt64 c) 0 = false) : c.toInt ≤ x.toInt := by
  have h1 : (0 : Int) ≤ _ := ccF_lt h
  rw [cc_cmp] at h1
  split at h1
  · omega
  · omega
theorem lgT_gt {x : Int32} {c : Int64} (h : am_cc2 .gt (lg_cmp x.toInt64 c) 0 = true) : c.toInt < x.toInt := by
  have h1 : (0 : Int) < _ := ccT_gt h
  rw [cc_cmp] at h1
  split at h1
  · omega
  · split at h1 <;> omega
theorem lgF_gt {x : Int32} {c : Int64} (h : am_cc2 .gt (lg_cmp x.toInt64 c) 0 = false) : x.toInt ≤ c.toInt := by
  have h1 : _ ≤ (0 : Int) := ccF_gt h
  rw [cc_cmp] at h1
  split at h1
  · omega
  · split at h1 <;> omega
theorem lgpT_lt {x : Int32} {c : Int64} (h : x.toInt < c.toInt) : am_cc2 .lt (lg_cmp x.toInt64 c) 0 = true := by
  cases z : am_cc2 .lt (lg_cmp x.toInt64 c) 0 with
  | true => rfl
  | false => exact absurd (lgF_lt z) (by omega)
theorem lgpF_lt {x : Int32} {c : Int64} (h : c.toInt ≤ x.toInt) : am_cc2 .lt (lg_cmp x.toInt64 c) 0 = false := by
  cases z : am_cc2 .lt (lg_cmp x.toInt64 c) 0 with
  | false => rfl
  | true => exact absurd (lgT_lt z) (by omega)
theorem lgpT_gt {x : Int32} {c : Int64} (h : c.toInt < x.toInt) : am_cc2 .gt (lg_cmp x.toInt64 c) 0 = true := by
  cases z : am_cc2 .gt (lg_cmp x.toInt64 c) 0 with
  | true => rfl
  | false => exact absurd (lgF_gt z) (by omega)
theorem lgpF_gt {x : Int32} {c : Int64} (h : x.toInt ≤ c.toInt) : am_cc2 .gt (lg_cmp x.toInt64 c) 0 = false := by
  cases z : am_cc2 .gt (lg_cmp x.toInt64 c) 0 with
  | false => rfl
  | true => exact absurd (lgT_gt z) (by omega)
theorem ccpT {cd : ClassFile.Cond} {x y : Int32} (h : ¬ am_cc2 cd x y = false) : am_cc2 cd x y = true := by cases z : am_cc2 cd x y <;> simp_all
theorem ccpF {cd : ClassFile.Cond} {x y : Int32} (h : ¬ am_cc2 cd x y = true) : am_cc2 cd x y = false := cc_F.mpr h
