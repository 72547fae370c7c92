section AMB
variable {E : am_Env} {d : Nat} {hp : am_H} {K : Option Value → am_H → Prop}
theorem k_puts_l {o a b : Nat} {f g : Nat → Int32} {fs : List Value} (ho : o < 1000000) (ha : a < 1000000) (hb : b < 1000000) (hoa : o ≠ b) (hab : a ≠ b) (hob : hp[o]? = some (.inr (12, fs))) (hfa : fs[43]? = some (.ref a)) (hfb : fs[44]? = some (.ref b)) (hca : hp[a]? = some (.inl (0, 127, .inl f))) (hcb : hp[b]? = some (.inl (0, 127, .inl g))) (k : K none (hp.set b (.inl (0, 127, .inl (fun j => if j < 127 then f j else g j))))) : ∀ (m i : Nat), i + m = 127 → am_k E d am_m261 (2, [(1, .int (nI i)), (0, .ref o)], [], hp.set b (.inl (0, 127, .inl (fun j => if j < i then f j else g j)))) K := by
  intro m
  induction m with
  | zero =>
    intro i hi
    obtain rfl : i = 127 := by omega
    refine am_k_e 2 (C' := (5, [(1, .int (nI 127)), (0, .ref o)], [.int 127, .int (nI 127)], hp.set b (.inl (0, 127, .inl (fun j => if j < 127 then f j else g j))))) rfl ?_
    refine am_k_icmpT rfl rfl (cc_ge.mpr (by decide)) ?_
    exact am_k_ret (r := none) rfl rfl k
  | succ m ih =>
    intro i hi
    have hnb : ∀ x : Nat, x ≠ b → (hp.set b (.inl (0, 127, .inl (fun j => if j < i then f j else g j))))[x]? = hp[x]? := fun x hx => by rw [List.getElem?_set_ne (Ne.symm hx)]
    have hii : am_in (nI i) 127 = true := am_in_of (by rw [nI_toInt (by omega)]; omega) (by rw [nI_toInt (by omega)]; omega)
    refine am_k_e 2 (C' := (5, [(1, .int (nI i)), (0, .ref o)], [.int 127, .int (nI i)], hp.set b (.inl (0, 127, .inl (fun j => if j < i then f j else g j))))) rfl ?_
    refine am_k_icmpF rfl rfl (cc_F.mpr (fun z => ?_)) ?_
    · have := cc_ge.mp z
      rw [nI_toInt (by omega)] at this
      have h0 : (127 : Int32).toInt = 127 := rfl
      omega
    refine am_k_e 1 (C' := (9, [(1, .int (nI i)), (0, .ref o)], [.ref o], hp.set b (.inl (0, 127, .inl (fun j => if j < i then f j else g j))))) rfl ?_
    refine am_k_getf rfl rfl ho (by rw [hnb o hoa]; exact hob) hfb ?_
    refine am_k_e 2 (C' := (14, [(1, .int (nI i)), (0, .ref o)], [.ref o, .int (nI i), .ref b], hp.set b (.inl (0, 127, .inl (fun j => if j < i then f j else g j))))) rfl ?_
    refine am_k_getf rfl rfl ho (by rw [hnb o hoa]; exact hob) hfa ?_
    refine am_k_e 1 (C' := (18, [(1, .int (nI i)), (0, .ref o)], [.int (nI i), .ref a, .int (nI i), .ref b], hp.set b (.inl (0, 127, .inl (fun j => if j < i then f j else g j))))) rfl ?_
    refine am_k_iald (v := f i) rfl ha (by rw [hnb a hab]; exact hca) hii (by rw [nI_clamp (by omega)]) ?_
    refine am_k_iast rfl hb (am_set_at hcb) hii ?_
    rw [List.set_set, nI_clamp (by omega)]
    have e1 : upd (fun j => if j < i then f j else g j) i (f i) = fun j => if j < i + 1 then f j else g j := by
      funext j
      unfold upd
      by_cases h1 : j = i
      · rw [if_pos h1, if_pos (by omega), h1]
      · rw [if_neg h1]
        dsimp only
        by_cases h2 : j < i
        · rw [if_pos h2, if_pos (by omega)]
        · rw [if_neg h2, if_neg (by omega)]
    rw [e1]
    refine am_k_e 2 (C' := (2, [(1, .int (nI i + 1)), (0, .ref o)], [], hp.set b (.inl (0, 127, .inl (fun j => if j < i + 1 then f j else g j))))) rfl ?_
    rw [nI_1]
    exact ih (i + 1) (by omega)
theorem k_puts {o a b : Nat} {f g : Nat → Int32} {fs : List Value} (ho : o < 1000000) (ha : a < 1000000) (hb : b < 1000000) (hoa : o ≠ b) (hab : a ≠ b) (hob : hp[o]? = some (.inr (12, fs))) (hfa : fs[43]? = some (.ref a)) (hfb : fs[44]? = some (.ref b)) (hca : hp[a]? = some (.inl (0, 127, .inl f))) (hcb : hp[b]? = some (.inl (0, 127, .inl g))) (k : K none (hp.set b (.inl (0, 127, .inl (fun j => if j < 127 then f j else g j))))) : am_k E d am_m261 (0, [(0, .ref o)], [], hp) K := by
  have e0 : hp = hp.set b (.inl (0, 127, .inl (fun j => if j < 0 then f j else g j))) := by
    have h2 : hp[b]'((List.getElem?_eq_some_iff.mp hcb).1) = .inl (0, 127, .inl g) := (List.getElem?_eq_some_iff.mp hcb).2
    have h3 : (fun j => if j < 0 then f j else g j) = g := by
      funext j
      rw [if_neg (Nat.not_lt_zero j)]
    rw [h3, ← h2, List.set_getElem_self]
  have k2 := k_puts_l (E := E) (d := d) (K := K) ho ha hb hoa hab hob hfa hfb hca hcb k 127 0 (by omega)
  rw [← e0] at k2
  exact am_k_e 2 (C' := (2, [(1, .int (nI 0)), (0, .ref o)], [], hp)) rfl k2
theorem k_takes_l {o a b : Nat} {f g : Nat → Int32} {fs : List Value} (ho : o < 1000000) (ha : a < 1000000) (hb : b < 1000000) (hoa : o ≠ b) (hab : a ≠ b) (hob : hp[o]? = some (.inr (12, fs))) (hfa : fs[44]? = some (.ref a)) (hfb : fs[43]? = some (.ref b)) (hca : hp[a]? = some (.inl (0, 127, .inl f))) (hcb : hp[b]? = some (.inl (0, 127, .inl g))) (k : K none (hp.set b (.inl (0, 127, .inl (fun j => if j < 127 then f j else g j))))) : ∀ (m i : Nat), i + m = 127 → am_k E d am_m263 (2, [(1, .int (nI i)), (0, .ref o)], [], hp.set b (.inl (0, 127, .inl (fun j => if j < i then f j else g j)))) K := by
  intro m
  induction m with
  | zero =>
    intro i hi
    obtain rfl : i = 127 := by omega
    refine am_k_e 2 (C' := (5, [(1, .int (nI 127)), (0, .ref o)], [.int 127, .int (nI 127)], hp.set b (.inl (0, 127, .inl (fun j => if j < 127 then f j else g j))))) rfl ?_
    refine am_k_icmpT rfl rfl (cc_ge.mpr (by decide)) ?_
    exact am_k_ret (r := none) rfl rfl k
  | succ m ih =>
    intro i hi
    have hnb : ∀ x : Nat, x ≠ b → (hp.set b (.inl (0, 127, .inl (fun j => if j < i then f j else g j))))[x]? = hp[x]? := fun x hx => by rw [List.getElem?_set_ne (Ne.symm hx)]
    have hii : am_in (nI i) 127 = true := am_in_of (by rw [nI_toInt (by omega)]; omega) (by rw [nI_toInt (by omega)]; omega)
    refine am_k_e 2 (C' := (5, [(1, .int (nI i)), (0, .ref o)], [.int 127, .int (nI i)], hp.set b (.inl (0, 127, .inl (fun j => if j < i then f j else g j))))) rfl ?_
    refine am_k_icmpF rfl rfl (cc_F.mpr (fun z => ?_)) ?_
    · have := cc_ge.mp z
      rw [nI_toInt (by omega)] at this
      have h0 : (127 : Int32).toInt = 127 := rfl
      omega
    refine am_k_e 1 (C' := (9, [(1, .int (nI i)), (0, .ref o)], [.ref o], hp.set b (.inl (0, 127, .inl (fun j => if j < i then f j else g j))))) rfl ?_
    refine am_k_getf rfl rfl ho (by rw [hnb o hoa]; exact hob) hfb ?_
    refine am_k_e 2 (C' := (14, [(1, .int (nI i)), (0, .ref o)], [.ref o, .int (nI i), .ref b], hp.set b (.inl (0, 127, .inl (fun j => if j < i then f j else g j))))) rfl ?_
    refine am_k_getf rfl rfl ho (by rw [hnb o hoa]; exact hob) hfa ?_
    refine am_k_e 1 (C' := (18, [(1, .int (nI i)), (0, .ref o)], [.int (nI i), .ref a, .int (nI i), .ref b], hp.set b (.inl (0, 127, .inl (fun j => if j < i then f j else g j))))) rfl ?_
    refine am_k_iald (v := f i) rfl ha (by rw [hnb a hab]; exact hca) hii (by rw [nI_clamp (by omega)]) ?_
    refine am_k_iast rfl hb (am_set_at hcb) hii ?_
    rw [List.set_set, nI_clamp (by omega)]
    have e1 : upd (fun j => if j < i then f j else g j) i (f i) = fun j => if j < i + 1 then f j else g j := by
      funext j
      unfold upd
      by_cases h1 : j = i
      · rw [if_pos h1, if_pos (by omega), h1]
      · rw [if_neg h1]
        dsimp only
        by_cases h2 : j < i
        · rw [if_pos h2, if_pos (by omega)]
        · rw [if_neg h2, if_neg (by omega)]
    rw [e1]
    refine am_k_e 2 (C' := (2, [(1, .int (nI i + 1)), (0, .ref o)], [], hp.set b (.inl (0, 127, .inl (fun j => if j < i + 1 then f j else g j))))) rfl ?_
    rw [nI_1]
    exact ih (i + 1) (by omega)
theorem k_takes {o a b : Nat} {f g : Nat → Int32} {fs : List Value} (ho : o < 1000000) (ha : a < 1000000) (hb : b < 1000000) (hoa : o ≠ b) (hab : a ≠ b) (hob : hp[o]? = some (.inr (12, fs))) (hfa : fs[44]? = some (.ref a)) (hfb : fs[43]? = some (.ref b)) (hca : hp[a]? = some (.inl (0, 127, .inl f))) (hcb : hp[b]? = some (.inl (0, 127, .inl g))) (k : K none (hp.set b (.inl (0, 127, .inl (fun j => if j < 127 then f j else g j))))) : am_k E d am_m263 (0, [(0, .ref o)], [], hp) K := by
  have e0 : hp = hp.set b (.inl (0, 127, .inl (fun j => if j < 0 then f j else g j))) := by
    have h2 : hp[b]'((List.getElem?_eq_some_iff.mp hcb).1) = .inl (0, 127, .inl g) := (List.getElem?_eq_some_iff.mp hcb).2
    have h3 : (fun j => if j < 0 then f j else g j) = g := by
      funext j
      rw [if_neg (Nat.not_lt_zero j)]
    rw [h3, ← h2, List.set_getElem_self]
  have k2 := k_takes_l (E := E) (d := d) (K := K) ho ha hb hoa hab hob hfa hfb hca hcb k 127 0 (by omega)
  rw [← e0] at k2
  exact am_k_e 2 (C' := (2, [(1, .int (nI 0)), (0, .ref o)], [], hp)) rfl k2
theorem k_clr_l {o a : Nat} {f : Nat → Int32} {fs : List Value} (ho : o < 1000000) (ha : a < 1000000) (hoa : o ≠ a) (hob : hp[o]? = some (.inr (12, fs))) (hfa : fs[43]? = some (.ref a)) (hca : hp[a]? = some (.inl (0, 127, .inl f))) (k : am_k E d am_m227 (250, [(1, .int (nI 127)), (0, .ref o)], [], hp.set a (.inl (0, 127, .inl (fun j => if j < 127 then 0 else f j)))) K) : ∀ (m i : Nat), i + m = 127 → am_k E d am_m227 (231, [(1, .int (nI i)), (0, .ref o)], [], hp.set a (.inl (0, 127, .inl (fun j => if j < i then 0 else f j)))) K := by
  intro m
  induction m with
  | zero =>
    intro i hi
    obtain rfl : i = 127 := by omega
    refine am_k_e 2 (C' := (234, [(1, .int (nI 127)), (0, .ref o)], [.int 127, .int (nI 127)], hp.set a (.inl (0, 127, .inl (fun j => if j < 127 then 0 else f j))))) rfl ?_
    exact am_k_icmpT rfl rfl (cc_ge.mpr (by decide)) k
  | succ m ih =>
    intro i hi
    have hii : am_in (nI i) 127 = true := am_in_of (by rw [nI_toInt (by omega)]; omega) (by rw [nI_toInt (by omega)]; omega)
    refine am_k_e 2 (C' := (234, [(1, .int (nI i)), (0, .ref o)], [.int 127, .int (nI i)], hp.set a (.inl (0, 127, .inl (fun j => if j < i then 0 else f j))))) rfl ?_
    refine am_k_icmpF rfl rfl (cc_F.mpr (fun z => ?_)) ?_
    · have := cc_ge.mp z
      rw [nI_toInt (by omega)] at this
      have h0 : (127 : Int32).toInt = 127 := rfl
      omega
    refine am_k_e 1 (C' := (238, [(1, .int (nI i)), (0, .ref o)], [.ref o], hp.set a (.inl (0, 127, .inl (fun j => if j < i then 0 else f j))))) rfl ?_
    refine am_k_getf rfl rfl ho (by rw [List.getElem?_set_ne (Ne.symm hoa)]; exact hob) hfa ?_
    refine am_k_e 2 (C' := (243, [(1, .int (nI i)), (0, .ref o)], [.int 0, .int (nI i), .ref a], hp.set a (.inl (0, 127, .inl (fun j => if j < i then 0 else f j))))) rfl ?_
    refine am_k_iast rfl ha (am_set_at hca) hii ?_
    rw [List.set_set, nI_clamp (by omega)]
    have e1 : upd (fun j => if j < i then 0 else f j) i 0 = fun j => if j < i + 1 then 0 else f j := by
      funext j
      unfold upd
      by_cases h1 : j = i
      · rw [if_pos h1, if_pos (by omega)]
      · rw [if_neg h1]
        dsimp only
        by_cases h2 : j < i
        · rw [if_pos h2, if_pos (by omega)]
        · rw [if_neg h2, if_neg (by omega)]
    rw [e1]
    refine am_k_e 2 (C' := (231, [(1, .int (nI i + 1)), (0, .ref o)], [], hp.set a (.inl (0, 127, .inl (fun j => if j < i + 1 then 0 else f j))))) rfl ?_
    rw [nI_1]
    exact ih (i + 1) (by omega)
theorem k_clr {x : Int32} {o a : Nat} {f : Nat → Int32} {fs : List Value} (ho : o < 1000000) (ha : a < 1000000) (hoa : o ≠ a) (hob : hp[o]? = some (.inr (12, fs))) (hfa : fs[43]? = some (.ref a)) (hca : hp[a]? = some (.inl (0, 127, .inl f))) (k : am_k E d am_m227 (250, [(1, .int (nI 127)), (0, .ref o)], [], hp.set a (.inl (0, 127, .inl (fun j => if j < 127 then 0 else f j)))) K) : am_k E d am_m227 (229, [(1, .int x), (0, .ref o)], [], hp) K := by
  have e0 : hp = hp.set a (.inl (0, 127, .inl (fun j => if j < 0 then 0 else f j))) := by
    have h2 : hp[a]'((List.getElem?_eq_some_iff.mp hca).1) = .inl (0, 127, .inl f) := (List.getElem?_eq_some_iff.mp hca).2
    have h3 : (fun j => if j < 0 then 0 else f j) = f := by
      funext j
      rw [if_neg (Nat.not_lt_zero j)]
    rw [h3, ← h2, List.set_getElem_self]
  have k2 := k_clr_l (E := E) (d := d) (K := K) ho ha hoa hob hfa hca k 127 0 (by omega)
  rw [← e0] at k2
  exact am_k_e 2 (C' := (231, [(1, .int (nI 0)), (0, .ref o)], [], hp)) rfl k2
theorem k_keep_l {o a b c : Nat} {f g : Nat → Int32} {fs : List Value} (hc20 : c < 20) (ho : o < 1000000) (ha : a < 1000000) (hb : b < 1000000) (hoa : o ≠ b) (hab : a ≠ b) (hob : hp[o]? = some (.inr (12, fs))) (hfa : fs[43]? = some (.ref a)) (hfb : fs[60]? = some (.ref b)) (hfc : fs[62]? = some (.int (nI c))) (hca : hp[a]? = some (.inl (0, 127, .inl f))) (hcb : hp[b]? = some (.inl (0, 2540, .inl g))) (k : am_k E d am_m291 (47, [(1, .int (nI 127)), (0, .ref o)], [], hp.set b (.inl (0, 2540, .inl (fun j => if 127 * c ≤ j ∧ j < 127 * c + 127 then f (j - 127 * c) else g j)))) K) : ∀ (m i : Nat), i + m = 127 → am_k E d am_m291 (15, [(1, .int (nI i)), (0, .ref o)], [], hp.set b (.inl (0, 2540, .inl (fun j => if 127 * c ≤ j ∧ j < 127 * c + i then f (j - 127 * c) else g j)))) K := by
  intro m
  induction m with
  | zero =>
    intro i hi
    obtain rfl : i = 127 := by omega
    refine am_k_e 2 (C' := (18, [(1, .int (nI 127)), (0, .ref o)], [.int 127, .int (nI 127)], hp.set b (.inl (0, 2540, .inl (fun j => if 127 * c ≤ j ∧ j < 127 * c + 127 then f (j - 127 * c) else g j))))) rfl ?_
    exact am_k_icmpT rfl rfl (cc_ge.mpr (by decide)) k
  | succ m ih =>
    intro i hi
    have hnb : ∀ x : Nat, x ≠ b → (hp.set b (.inl (0, 2540, .inl (fun j => if 127 * c ≤ j ∧ j < 127 * c + i then f (j - 127 * c) else g j))))[x]? = hp[x]? := fun x hx => by rw [List.getElem?_set_ne (Ne.symm hx)]
    have hii : am_in (nI i) 127 = true := am_in_of (by rw [nI_toInt (by omega)]; omega) (by rw [nI_toInt (by omega)]; omega)
    refine am_k_e 2 (C' := (18, [(1, .int (nI i)), (0, .ref o)], [.int 127, .int (nI i)], hp.set b (.inl (0, 2540, .inl (fun j => if 127 * c ≤ j ∧ j < 127 * c + i then f (j - 127 * c) else g j))))) rfl ?_
    refine am_k_icmpF rfl rfl (cc_F.mpr (fun z => ?_)) ?_
    · have := cc_ge.mp z
      rw [nI_toInt (by omega)] at this
      have h0 : (127 : Int32).toInt = 127 := rfl
      omega
    refine am_k_e 1 (C' := (22, [(1, .int (nI i)), (0, .ref o)], [.ref o], hp.set b (.inl (0, 2540, .inl (fun j => if 127 * c ≤ j ∧ j < 127 * c + i then f (j - 127 * c) else g j))))) rfl ?_
    refine am_k_getf rfl rfl ho (by rw [hnb o hoa]; exact hob) hfb ?_
    refine am_k_e 2 (C' := (28, [(1, .int (nI i)), (0, .ref o)], [.ref o, .int 127, .ref b], hp.set b (.inl (0, 2540, .inl (fun j => if 127 * c ≤ j ∧ j < 127 * c + i then f (j - 127 * c) else g j))))) rfl ?_
    refine am_k_getf rfl rfl ho (by rw [hnb o hoa]; exact hob) hfc ?_
    refine am_k_e 4 (C' := (35, [(1, .int (nI i)), (0, .ref o)], [.ref o, .int (127 * nI c + nI i), .ref b], hp.set b (.inl (0, 2540, .inl (fun j => if 127 * c ≤ j ∧ j < 127 * c + i then f (j - 127 * c) else g j))))) rfl ?_
    refine am_k_getf rfl rfl ho (by rw [hnb o hoa]; exact hob) hfa ?_
    refine am_k_e 1 (C' := (39, [(1, .int (nI i)), (0, .ref o)], [.int (nI i), .ref a, .int (127 * nI c + nI i), .ref b], hp.set b (.inl (0, 2540, .inl (fun j => if 127 * c ≤ j ∧ j < 127 * c + i then f (j - 127 * c) else g j))))) rfl ?_
    refine am_k_iald (v := f i) rfl ha (by rw [hnb a hab]; exact hca) hii (by rw [nI_clamp (by omega)]) ?_
    have e2 : (127 : Int32) * nI c + nI i = nI (127 * c + i) := by
      rw [show (127 : Int32) = nI 127 from rfl, pk_mul, nI_add]
    rw [e2]
    refine am_k_iast rfl hb (am_set_at hcb) (am_in_of (by rw [nI_toInt (by omega)]; omega) (by rw [nI_toInt (by omega)]; omega)) ?_
    rw [List.set_set, nI_clamp (by omega)]
    have e1 : upd (fun j => if 127 * c ≤ j ∧ j < 127 * c + i then f (j - 127 * c) else g j) (127 * c + i) (f i) = fun j => if 127 * c ≤ j ∧ j < 127 * c + (i + 1) then f (j - 127 * c) else g j := by
      funext j
      unfold upd
      by_cases h1 : j = 127 * c + i
      · rw [if_pos h1, if_pos (by omega), h1, Nat.add_sub_cancel_left]
      · rw [if_neg h1]
        dsimp only
        by_cases h2 : 127 * c ≤ j ∧ j < 127 * c + i
        · rw [if_pos h2, if_pos (by omega)]
        · rw [if_neg h2, if_neg (by omega)]
    rw [e1]
    refine am_k_e 2 (C' := (15, [(1, .int (nI i + 1)), (0, .ref o)], [], hp.set b (.inl (0, 2540, .inl (fun j => if 127 * c ≤ j ∧ j < 127 * c + (i + 1) then f (j - 127 * c) else g j))))) rfl ?_
    rw [nI_1]
    exact ih (i + 1) (by omega)
theorem k_keep {o a b c : Nat} {f g : Nat → Int32} {fs : List Value} (hc20 : c < 20) (ho : o < 1000000) (ha : a < 1000000) (hb : b < 1000000) (hoa : o ≠ b) (hab : a ≠ b) (hob : hp[o]? = some (.inr (12, fs))) (hfa : fs[43]? = some (.ref a)) (hfb : fs[60]? = some (.ref b)) (hfc : fs[62]? = some (.int (nI c))) (hca : hp[a]? = some (.inl (0, 127, .inl f))) (hcb : hp[b]? = some (.inl (0, 2540, .inl g))) (k : am_k E d am_m291 (47, [(1, .int (nI 127)), (0, .ref o)], [], hp.set b (.inl (0, 2540, .inl (fun j => if 127 * c ≤ j ∧ j < 127 * c + 127 then f (j - 127 * c) else g j)))) K) : am_k E d am_m291 (13, [(0, .ref o)], [], hp) K := by
  have e0 : hp = hp.set b (.inl (0, 2540, .inl (fun j => if 127 * c ≤ j ∧ j < 127 * c + 0 then f (j - 127 * c) else g j))) := by
    have h2 : hp[b]'((List.getElem?_eq_some_iff.mp hcb).1) = .inl (0, 2540, .inl g) := (List.getElem?_eq_some_iff.mp hcb).2
    have h3 : (fun j => if 127 * c ≤ j ∧ j < 127 * c + 0 then f (j - 127 * c) else g j) = g := by
      funext j
      rw [if_neg (by omega)]
    rw [h3, ← h2, List.set_getElem_self]
  have k2 := k_keep_l (E := E) (d := d) (K := K) hc20 ho ha hb hoa hab hob hfa hfb hfc hca hcb k 127 0 (by omega)
  rw [← e0] at k2
  exact am_k_e 2 (C' := (15, [(1, .int (nI 0)), (0, .ref o)], [], hp)) rfl k2
end AMB
