/-! rules for fields, rows, calls, returns, switches -/
theorem xfl_get (f : Int → Int) : ∀ (fl : List (Nat × Int)) (j k : Nat) (q : Nat × Int), fl[k]? = some q → (xfl f j fl)[k]? = some (xfv q (f ((j + k : Nat) : Int)))
  | [], _, _, _, h => by simp at h
  | _ :: t, j, 0, q, h => by
    simp only [List.getElem?_cons_zero, Option.some.injEq] at h
    subst h
    rfl
  | _ :: t, j, k + 1, q, h => by
    rw [List.getElem?_cons_succ] at h
    have := xfl_get f t (j + 1) k q h
    unfold xfl
    rw [List.getElem?_cons_succ, this, show j + 1 + k = j + (k + 1) by omega]
theorem xfl_len (f : Int → Int) : ∀ (fl : List (Nat × Int)) (j : Nat), (xfl f j fl).length = fl.length
  | [], _ => rfl
  | _ :: t, j => by
    unfold xfl
    rw [List.length_cons, List.length_cons, xfl_len f t (j + 1)]
def up1 (f : Int → Int) (k z : Int) : Int → Int := fun j => if j = k then z else f j
theorem xfl_up (f : Int → Int) (z : Int) : ∀ (fl : List (Nat × Int)) (j : Nat) (k : Int), k < (j : Int) → xfl (up1 f k z) j fl = xfl f j fl
  | [], _, _, _ => rfl
  | q :: t, j, k, h => by
    unfold xfl
    rw [xfl_up f z t (j + 1) k (by omega)]
    unfold up1
    rw [if_neg (by omega)]
theorem xfl_set (f : Int → Int) (z : Int) : ∀ (fl : List (Nat × Int)) (j k : Nat) (q : Nat × Int), fl[k]? = some q → (xfl f j fl).set k (xfv q z) = xfl (up1 f ((j + k : Nat) : Int) z) j fl
  | [], _, _, _, h => by simp at h
  | p :: t, j, 0, q, h => by
    simp only [List.getElem?_cons_zero, Option.some.injEq] at h
    subst h
    unfold xfl
    rw [xfl_up f z t (j + 1) _ (by omega), List.set_cons_zero]
    unfold up1
    rw [if_pos (by omega)]
  | p :: t, j, k + 1, q, h => by
    rw [List.getElem?_cons_succ] at h
    have := xfl_set f z t (j + 1) k q h
    unfold xfl
    rw [List.set_cons_succ, this, show j + 1 + k = j + (k + 1) by omega]
    unfold up1
    rw [if_neg (by omega)]
theorem st_self (m : xm) (a : Nat) (k v : Int) : st m a k v a = up1 (m a) k v := by
  funext j
  unfold st up1
  by_cases h : j = k
  · rw [if_pos ⟨rfl, h⟩, if_pos h]
  · rw [if_neg (fun z => h z.2), if_neg h]
/-- the field k of the object in cell a: its class, its kind -/
def xfk (a ci k : Nat) : Option (Nat × Int) := match xsa a with
  | (4, cj, fl, _) => if cj = ci then fl[k]? else none
  | _ => none
theorem xfk_of {a ci k : Nat} {q : Nat × Int} (h : xfk a ci k = some q) : (xsa a).1 = 4 ∧ (xsa a).2.1 = ci ∧ (xsa a).2.2.1[k]? = some q := by
  unfold xfk at h
  split at h
  · next cj fl sg e =>
    split at h
    · next hj => rw [e]; exact ⟨rfl, hj, h⟩
    · cases h
  · cases h
theorem xcf_obj {a : Nat} {f : Int → Int} (h : (xsa a).1 = 4) : xcf (xsa a) f = .inr ((xsa a).2.1, xfl f 0 (xsa a).2.2.1) := by
  unfold xcf
  rw [h]
  rfl
/-- may it be written -/
def xpk (M : am_M) (ci k : Nat) (v : Value) : Bool := match am_cl[ci]?, am_cy[ci]? with
  | some q, some ty => am_fit (ty k) v && (am_ini M && decide ((q.2.1 k).1 = am_n (am_o M)) || !(q.2.1 k).2.2.2)
  | _, _ => false
section XO
variable {L : Nat} {xs : Nat → Int32} {d : Nat} {M N : am_M} {t pc : Nat} {lsc : am_L} {sk : List Value} {m : xm} {o A B : xr}
theorem w_getf {E : am_Env} {x ci k a : Nat} {q : Nat × Int} (hi : (am_cd M).lookup pc = some (.getfield x)) (hp : am_pl (am_o M) x = some (0, ci, k)) (ha : a < 142) (hf : xfk a ci k = some q) (z : xw E d M t (pc + 3) lsc (xfv q (m a (k : Int)) :: sk) m o) : xw E d M t pc lsc (.ref a :: sk) m o := by
  obtain ⟨h1, h2, h3⟩ := xfk_of hf
  refine w_one hi rfl rfl (fun _ _ => ?_) z
  have h4 := xfl_get (m a) _ 0 k q h3
  rw [Nat.zero_add] at h4
  simp only [am_one, hp, if_pos (show a < 1000000 by omega), enc_get ha, xcf_obj h1, if_pos h2, h4]
theorem w_gfi {E : am_Env} {x ci k a : Nat} {k' z : Int} (hi : (am_cd M).lookup pc = some (.getfield x)) (hp : am_pl (am_o M) x = some (0, ci, k)) (ha : a < 142) (hf : xfk a ci k = some (1, z)) (hk : (k : Int) = k') (q : xw E d M t (pc + 3) lsc (.int (i32 (ld m a k')) :: sk) m o) : xw E d M t pc lsc (.ref a :: sk) m o := by
  subst hk
  refine w_getf hi hp ha hf ?_
  unfold ld at q
  rw [i32_w] at q
  exact q
theorem w_gfl {E : am_Env} {x ci k a : Nat} {k' z : Int} (hi : (am_cd M).lookup pc = some (.getfield x)) (hp : am_pl (am_o M) x = some (0, ci, k)) (ha : a < 142) (hf : xfk a ci k = some (2, z)) (hk : (k : Int) = k') (q : xw E d M t (pc + 3) lsc (.long (i64 (ldl m a k')) :: sk) m o) : xw E d M t pc lsc (.ref a :: sk) m o := by
  subst hk
  refine w_getf hi hp ha hf ?_
  unfold ldl at q
  rw [i64_w] at q
  exact q
theorem w_gfr {E : am_Env} {x ci k a r : Nat} {z : Int} (hi : (am_cd M).lookup pc = some (.getfield x)) (hp : am_pl (am_o M) x = some (0, ci, k)) (ha : a < 142) (hf : xfk a ci k = some (0, z)) (hz : z.toNat = r) (q : xw E d M t (pc + 3) lsc (.ref r :: sk) m o) : xw E d M t pc lsc (.ref a :: sk) m o := by
  subst hz
  exact w_getf hi hp ha hf q
theorem w_gfc {E : am_Env} {x ci k a : Nat} {z : Int} (hi : (am_cd M).lookup pc = some (.getfield x)) (hp : am_pl (am_o M) x = some (0, ci, k)) (ha : a < 142) (hf : xfk a ci k = some (4, z)) (q : xw E d M t (pc + 3) lsc (.int (i32 z) :: sk) m o) : xw E d M t pc lsc (.ref a :: sk) m o := w_getf hi hp ha hf q
theorem w_gfh {E : am_Env} {x ci k : Nat} {k' z : Int} (hi : (am_cd M).lookup pc = some (.getfield x)) (hp : am_pl (am_o M) x = some (0, ci, k)) (hf : xfk 0 ci k = some (3, z)) (hk : (k : Int) = k') (q : xw E d M t (pc + 3) lsc (.ref (hl m k') :: sk) m o) : xw E d M t pc lsc (.ref 0 :: sk) m o := by
  subst hk
  exact w_getf hi hp (by decide) hf q
theorem w_putf {E : am_Env} {x ci k a : Nat} {q : Nat × Int} {v : Int} {w : Value} (hi : (am_cd M).lookup pc = some (.putfield x)) (hp : am_pl (am_o M) x = some (0, ci, k)) (ha : a < 142) (hf : xfk a ci k = some q) (hw : xfv q v = w) (hk : xpk M ci k w = true) {K : xm → xr} {k' : Int} (hk' : (k : Int) = k') (z : ∀ m1, xw E d M t (pc + 3) lsc sk m1 (K m1)) : xw E d M t pc lsc (w :: .ref a :: sk) m (stf m a k' v K) := by
  subst hw hk'
  obtain ⟨h1, h2, h3⟩ := xfk_of hf
  have hlt : k < (xsa a).2.2.1.length := (List.getElem?_eq_some_iff.mp h3).1
  unfold stf
  refine w_oneM (m' := st m a k v) hi (by cases q; rfl) (by rfl) (fun ls => ?_) (z _)
  have e2 : (enc m).set a (.inr (ci, (xfl (m a) 0 (xsa a).2.2.1).set k (xfv q v))) = enc (st m a k v) := by
    rw [xfl_set (m a) v _ 0 k q h3, Nat.zero_add, ← st_self]
    have := enc_set (m := m) (m' := st m a (k : Int) v) (a := a) (fun b hb => st_ne hb)
    rw [xcf_obj h1, h2] at this
    exact this
  unfold xpk at hk
  split at hk
  · next q1 ty hq1 hty =>
    rw [Bool.and_eq_true] at hk
    have hfin : am_ini M = true ∧ (q1.2.1 k).1 = am_n (am_o M) ∨ (q1.2.1 k).2.2.2 = false := by
      have := hk.2
      rw [Bool.or_eq_true, Bool.and_eq_true, decide_eq_true_eq, Bool.not_eq_true'] at this
      exact this
    simp only [am_one, hp, if_pos (show a < 1000000 by omega), enc_get ha, xcf_obj h1, hq1, hty]
    rw [if_pos ⟨h2, by rw [xfl_len]; exact hlt, hk.1, hfin⟩, e2]
  · cases hk
theorem w_pfi {E : am_Env} {x ci k a : Nat} {k' v z : Int} {K : xm → xr} (hi : (am_cd M).lookup pc = some (.putfield x)) (hp : am_pl (am_o M) x = some (0, ci, k)) (ha : a < 142) (hf : xfk a ci k = some (1, z)) (hk' : (k : Int) = k') (hk : xpk M ci k (.int (i32 v)) = true) (q : ∀ m1, xw E d M t (pc + 3) lsc sk m1 (K m1)) : xw E d M t pc lsc (.int (i32 v) :: .ref a :: sk) m (stf m a k' v K) := w_putf hi hp ha hf rfl hk hk' q
theorem w_pfl {E : am_Env} {x ci k a : Nat} {k' v z : Int} {K : xm → xr} (hi : (am_cd M).lookup pc = some (.putfield x)) (hp : am_pl (am_o M) x = some (0, ci, k)) (ha : a < 142) (hf : xfk a ci k = some (2, z)) (hk' : (k : Int) = k') (hk : xpk M ci k (.long (i64 v)) = true) (q : ∀ m1, xw E d M t (pc + 3) lsc sk m1 (K m1)) : xw E d M t pc lsc (.long (i64 v) :: .ref a :: sk) m (stf m a k' v K) := w_putf hi hp ha hf rfl hk hk' q
theorem hlr_h {h : Nat} (hh : isH h) : hlr (h : Int) = h := by rcases hh with rfl | rfl <;> rfl
theorem w_pfh {E : am_Env} {x ci k a h : Nat} {k' z : Int} {K : xm → xr} (hi : (am_cd M).lookup pc = some (.putfield x)) (hp : am_pl (am_o M) x = some (0, ci, k)) (ha : a < 142) (hf : xfk a ci k = some (3, z)) (hk' : (k : Int) = k') (hh : isH h) (hk : xpk M ci k (.ref h) = true) (q : ∀ m1, xw E d M t (pc + 3) lsc sk m1 (K m1)) : xw E d M t pc lsc (.ref h :: .ref a :: sk) m (stf m a k' (h : Int) K) := w_putf hi hp ha hf (by show Value.ref (hlr (h : Int)) = _; rw [hlr_h hh]) hk hk' q
/-! rows -/
theorem xia_of {a : Nat} (h : xia a = true) : a < 142 ∧ ∀ f, xcf (xsa a) f = .inl (0, (xsa a).2.1, .inl (fun i => i32 (f (i : Int)))) := by
  unfold xia at h
  rw [Bool.and_eq_true, decide_eq_true_eq, beq_iff_eq] at h
  refine ⟨h.1, fun f => ?_⟩
  unfold xcf
  rw [h.2]
  rfl
theorem am_in_w {k : Int} {n : Nat} (h1 : 0 ≤ w32 k) (h2 : w32 k < (n : Int)) : am_in (i32 k) n = true := am_in_of h1 h2
theorem tnc_w {k : Int} (h1 : 0 ≤ w32 k) : (((i32 k).toNatClampNeg : Nat) : Int) = w32 k := by
  show (((i32 k).toInt.toNat : Nat) : Int) = w32 k
  unfold w32 at *
  omega
theorem w_iaload {E : am_Env} {a : Nat} {k : Int} {K : Int → xr} (hi : (am_cd M).lookup pc = some .iaload) (ha : xia a = true) (q : ∀ v, xw E d M t (pc + 1) lsc (.int (i32 v) :: sk) m (K v)) : xw E d M t pc lsc (.int (i32 k) :: .ref a :: sk) m (ial m a k K) := by
  obtain ⟨h1, h2⟩ := xia_of ha
  unfold ial
  split
  · next hb =>
    refine w_one hi rfl rfl (fun _ _ => ?_) (q (ld m a (w32 k)))
    simp only [am_one, if_pos (show a < 1000000 by omega), enc_get h1, h2, am_in_w hb.1 hb.2, if_true, tnc_w hb.1]
    unfold ld
    rw [i32_w]
  · exact w_none
theorem w_iastore {E : am_Env} {a : Nat} {k v : Int} {K : xm → xr} (hi : (am_cd M).lookup pc = some .iastore) (ha : xia a = true) (q : ∀ m1, xw E d M t (pc + 1) lsc sk m1 (K m1)) : xw E d M t pc lsc (.int (i32 v) :: .int (i32 k) :: .ref a :: sk) m (ias m a k v K) := by
  obtain ⟨h1, h2⟩ := xia_of ha
  unfold ias
  split
  · next hb =>
    refine w_oneM (m' := st m a (w32 k) v) hi rfl rfl (fun _ => ?_) (q _)
    simp only [am_one, if_pos (show a < 1000000 by omega), enc_get h1, h2, am_in_w hb.1 hb.2, if_true]
    have e := enc_set (m := m) (m' := st m a (w32 k) v) (a := a) (fun b hb => st_ne hb)
    rw [h2] at e
    rw [← e]
    refine congrArg (fun z => some (pc + 1, _, _, (enc m).set a (.inl (0, _, .inl z)))) ?_
    funext j
    rw [st_self]
    unfold upd up1
    by_cases hj : j = (i32 k).toNatClampNeg
    · rw [if_pos hj, if_pos (by rw [← tnc_w hb.1, hj])]
    · rw [if_neg hj, if_neg (fun z => hj (by have := tnc_w hb.1; omega))]
  · exact w_none
theorem w_laload {E : am_Env} {a : Nat} {k : Int} {K : Int → xr} (hi : (am_cd M).lookup pc = some .laload) (ha : a < 142) (ht : (xsa a).1 = 1) (q : ∀ v, xw E d M t (pc + 1) lsc (.long (i64 v) :: sk) m (K v)) : xw E d M t pc lsc (.int (i32 k) :: .ref a :: sk) m (lal m a k K) := by
  unfold lal
  split
  · next hb =>
    refine w_one hi rfl rfl (fun _ _ => ?_) (q (ldl m a (w32 k)))
    have h2 : xcf (xsa a) (m a) = .inl (1, (xsa a).2.1, .inr (.inl (fun i => i64 (m a (i : Int))))) := by
      unfold xcf
      rw [ht]
      rfl
    simp only [am_one, if_pos (show a < 1000000 by omega), enc_get ha, h2, am_in_w hb.1 hb.2, if_true, tnc_w hb.1]
    unfold ldl
    rw [i64_w]
  · exact w_none
theorem w_lastore {E : am_Env} {a : Nat} {k v : Int} {K : xm → xr} (hi : (am_cd M).lookup pc = some .lastore) (ha : a < 142) (ht : (xsa a).1 = 1) (q : ∀ m1, xw E d M t (pc + 1) lsc sk m1 (K m1)) : xw E d M t pc lsc (.long (i64 v) :: .int (i32 k) :: .ref a :: sk) m (ias m a k v K) := by
  unfold ias
  split
  · next hb =>
    refine w_oneM (m' := st m a (w32 k) v) hi rfl rfl (fun _ => ?_) (q _)
    have h2 : ∀ f, xcf (xsa a) f = .inl (1, (xsa a).2.1, .inr (.inl (fun i => i64 (f (i : Int))))) := by
      intro f
      unfold xcf
      rw [ht]
      rfl
    simp only [am_one, if_pos (show a < 1000000 by omega), enc_get ha, h2, am_in_w hb.1 hb.2, if_true]
    have e := enc_set (m := m) (m' := st m a (w32 k) v) (a := a) (fun b hb => st_ne hb)
    rw [h2] at e
    rw [← e]
    refine congrArg (fun z => some (pc + 1, _, _, (enc m).set a (.inl (1, _, .inr (.inl z))))) ?_
    funext j
    rw [st_self]
    unfold vp_updL up1
    by_cases hj : j = (i32 k).toNatClampNeg
    · rw [if_pos hj, if_pos (by rw [← tnc_w hb.1, hj])]
    · rw [if_neg hj, if_neg (fun z => hj (by have := tnc_w hb.1; omega))]
  · exact w_none
theorem w_caload {E : am_Env} {a : Nat} {k : Int} {K : Int → xr} (hi : (am_cd M).lookup pc = some .caload) (ha : a < 142) (ht : (xsa a).1 = 2) (q : ∀ v, xw E d M t (pc + 1) lsc (.int (i32 v) :: sk) m (K v)) : xw E d M t pc lsc (.int (i32 k) :: .ref a :: sk) m (cld a k K) := by
  unfold cld
  split
  · next hb =>
    refine w_one hi rfl rfl (fun _ _ => ?_) (q (wch a (w32 k)))
    have h2 : xcf (xsa a) (m a) = .inl (2, (xsa a).2.1, .inl (fun i => i32 (((xsa a).2.2.2.getD i 0 : Nat) : Int))) := by
      unfold xcf
      rw [ht]
      rfl
    simp only [am_one, if_pos (show a < 1000000 by omega), enc_get ha, h2, am_in_w hb.1 hb.2, if_true]
    unfold wch
    rw [← tnc_w hb.1, Int.toNat_natCast]
  · exact w_none
theorem w_alen {E : am_Env} {a : Nat} {n : Int} (hi : (am_cd M).lookup pc = some .arraylength) (ha : a < 142) (ht : (xsa a).1 < 4) (hn : aln a = n) (q : xw E d M t (pc + 1) lsc (.int (i32 n) :: sk) m o) : xw E d M t pc lsc (.ref a :: sk) m o := by
  subst hn
  refine w_one hi rfl rfl (fun _ _ => ?_) q
  have h2 : ∃ f, xcf (xsa a) (m a) = .inl ((xsa a).1, (xsa a).2.1, f) := by
    unfold xcf
    match h : (xsa a).1, ht with
    | 0, _ => exact ⟨_, rfl⟩
    | 1, _ => exact ⟨_, rfl⟩
    | 2, _ => exact ⟨_, rfl⟩
    | 3, _ => exact ⟨_, rfl⟩
    | k + 4, hk => omega
  obtain ⟨f, h2⟩ := h2
  simp only [am_one, if_pos (show a < 1000000 by omega), enc_get ha, h2, if_pos ht]
  congr 5
/-! calls -/
def xrc (N : am_M) (a : Nat) : Bool := decide (a < 142) && ((xsa a).1 == 4 && (xsa a).2.1 == am_o N)
theorem xrc_ok {N : am_M} {a : Nat} {as : List Value} (h : xrc N a = true) : am_rcv N (.ref a :: as) (enc m) = true := by
  unfold xrc at h
  rw [Bool.and_eq_true, Bool.and_eq_true, decide_eq_true_eq, beq_iff_eq, beq_iff_eq] at h
  unfold am_rcv
  simp only [if_pos (show a < 1000000 by omega), enc_get h.1, xcf_obj h.2.1, h.2.2, decide_true]
theorem w_callG {E : am_Env} {i : Instr} {j t' : Nat} {v : Bool} {oc : xr} {K : Int → xm → xr} (as rest : List Value) (hd : 1 ≤ d) (hi : (am_cd M).lookup pc = some i) (hr : am_ret M i sk = none) (hc : am_cal M i = some (j, v)) (hN : am_tab j = some N) (hs : as.reverse ++ rest = sk) (hl : as.length = am_na N)
    (hcat : (rest.map fun v => v.category).sum ≤ 8) (hrc : v = true → am_rcv N as (enc m) = true) (hml : (lg_sl as).length ≤ am_ml N) {lsn : am_L} (hls : lv_args 0 as = lsn) (hnd : xndk (lsn.map (fun q => q.1)) = true) (h1 : xw E (d - 1) N t' 0 lsn [] m oc) (h2 : ∀ (r : Int) (m1 : xm), xw E d M t (pc + 3) lsc ((xv t' r).toList ++ rest) m1 (K r m1)) : xw E d M t pc lsc sk m (bnd oc K) := by
  obtain ⟨d, rfl⟩ : ∃ d', d = d' + 1 := ⟨d - 1, by omega⟩
  intro p hp ls hcv
  cases hoc : oc with
  | none => rw [hoc] at hp; cases hp
  | some p1 =>
    rw [hoc] at hp
    subst hls
    have g1 := h1 p1 hoc (lv_args 0 as) ⟨xndk_ok hnd, fun _ _ h => h⟩
    have g2 := h2 p1.1 p1.2 p hp ls hcv
    exact am_e_call as rest hi hr hc hN hs hl hcat hrc hml g1 g2
theorem w_call0 {E : am_Env} {i : Instr} {j : Nat} {v : Bool} {oc : xr} {K : Int → xm → xr} (as rest : List Value) (hd : 1 ≤ d) (hi : (am_cd M).lookup pc = some i) (hr : am_ret M i sk = none) (hc : am_cal M i = some (j, v)) (hN : am_tab j = some N) (hs : as.reverse ++ rest = sk) (hl : as.length = am_na N) (hcat : (rest.map fun v => v.category).sum ≤ 8) (hrc : v = true → am_rcv N as (enc m) = true) (hml : (lg_sl as).length ≤ am_ml N) {lsn : am_L} (hls : lv_args 0 as = lsn) (hnd : xndk (lsn.map (fun q => q.1)) = true) (h1 : xw E (d - 1) N 0 0 lsn [] m oc) (h2 : ∀ (r : Int) (m1 : xm), xw E d M t (pc + 3) lsc rest m1 (K r m1)) : xw E d M t pc lsc sk m (bnd oc K) := w_callG as rest hd hi hr hc hN hs hl hcat hrc hml hls hnd h1 h2
theorem w_call1 {E : am_Env} {i : Instr} {j : Nat} {v : Bool} {oc : xr} {K : Int → xm → xr} (as rest : List Value) (hd : 1 ≤ d) (hi : (am_cd M).lookup pc = some i) (hr : am_ret M i sk = none) (hc : am_cal M i = some (j, v)) (hN : am_tab j = some N) (hs : as.reverse ++ rest = sk) (hl : as.length = am_na N) (hcat : (rest.map fun v => v.category).sum ≤ 8) (hrc : v = true → am_rcv N as (enc m) = true) (hml : (lg_sl as).length ≤ am_ml N) {lsn : am_L} (hls : lv_args 0 as = lsn) (hnd : xndk (lsn.map (fun q => q.1)) = true) (h1 : xw E (d - 1) N 1 0 lsn [] m oc) (h2 : ∀ (r : Int) (m1 : xm), xw E d M t (pc + 3) lsc (.int (i32 r) :: rest) m1 (K r m1)) : xw E d M t pc lsc sk m (bnd oc K) := w_callG as rest hd hi hr hc hN hs hl hcat hrc hml hls hnd h1 h2
theorem w_call2 {E : am_Env} {i : Instr} {j : Nat} {v : Bool} {oc : xr} {K : Int → xm → xr} (as rest : List Value) (hd : 1 ≤ d) (hi : (am_cd M).lookup pc = some i) (hr : am_ret M i sk = none) (hc : am_cal M i = some (j, v)) (hN : am_tab j = some N) (hs : as.reverse ++ rest = sk) (hl : as.length = am_na N) (hcat : (rest.map fun v => v.category).sum ≤ 8) (hrc : v = true → am_rcv N as (enc m) = true) (hml : (lg_sl as).length ≤ am_ml N) {lsn : am_L} (hls : lv_args 0 as = lsn) (hnd : xndk (lsn.map (fun q => q.1)) = true) (h1 : xw E (d - 1) N 2 0 lsn [] m oc) (h2 : ∀ (r : Int) (m1 : xm), xw E d M t (pc + 3) lsc (.long (i64 r) :: rest) m1 (K r m1)) : xw E d M t pc lsc sk m (bnd oc K) := w_callG as rest hd hi hr hc hN hs hl hcat hrc hml hls hnd h1 h2
theorem w_callA {E : am_Env} {i : Instr} {j : Nat} {v : Bool} {oc : xr} {K : Int → xm → xr} (as rest : List Value) (hd : 1 ≤ d) (hi : (am_cd M).lookup pc = some i) (hr : am_ret M i sk = none) (hc : am_cal M i = some (j, v)) (hN : am_tab j = some N) (hs : as.reverse ++ rest = sk) (hl : as.length = am_na N) (hcat : (rest.map fun v => v.category).sum ≤ 8) (hrc : v = true → am_rcv N as (enc m) = true) (hml : (lg_sl as).length ≤ am_ml N) {lsn : am_L} (hls : lv_args 0 as = lsn) (hnd : xndk (lsn.map (fun q => q.1)) = true) (h1 : xw E (d - 1) N 3 0 lsn [] m oc) (h2 : ∀ (r : Int) (m1 : xm), xia r.toNat = true → xw E d M t (pc + 3) lsc (.ref r.toNat :: rest) m1 (K r m1)) : xw E d M t pc lsc sk m (bnd oc fun r m1 => xga r.toNat <| K r m1) := w_callG as rest hd hi hr hc hN hs hl hcat hrc hml hls hnd h1 (fun r m1 => by
  unfold xga
  split
  · next h => exact h2 r m1 h
  · exact w_none)
theorem w_callR {E : am_Env} {i : Instr} {j : Nat} {v : Bool} (as rest : List Value) (hd : 1 ≤ d) (hi : (am_cd M).lookup pc = some i) (hr : am_ret M i sk = none) (hc : am_cal M i = some (j, v)) (hN : am_tab j = some N) (hs : as.reverse ++ rest = sk) (hl : as.length = am_na N) (hcat : (rest.map fun v => v.category).sum ≤ 8) (hrc : v = true → am_rcv N as (enc m) = true) (hml : (lg_sl as).length ≤ am_ml N) {lsn : am_L} (hls : lv_args 0 as = lsn) (hnd : xndk (lsn.map (fun q => q.1)) = true) {a : Nat} (h1 : xw E (d - 1) N 3 0 lsn [] m (some ((a : Int), m))) (h2 : xw E d M t (pc + 3) lsc (.ref a :: rest) m o) : xw E d M t pc lsc sk m o := by
  obtain ⟨d, rfl⟩ : ∃ d', d = d' + 1 := ⟨d - 1, by omega⟩
  intro p hp ls hcv
  subst hls
  have g1 := h1 _ rfl (lv_args 0 as) ⟨xndk_ok hnd, fun _ _ h => h⟩
  have g2 := h2 p hp ls hcv
  exact am_e_call as rest hi hr hc hN hs hl hcat hrc hml g1 g2
/-! returns -/
theorem w_retv {E : am_Env} {i : Instr} {x : Int} (hi : (am_cd M).lookup pc = some i) (h : am_ret M i sk = some (xv t x)) : xw E d M t pc lsc sk m (some (x, m)) := by
  intro p hp ls hcv
  cases hp
  exact am_e_ret hi h
theorem w_retb {E : am_Env} {x : Int} (hi : (am_cd M).lookup pc = some .ireturn) (hr : am_rt M = some .boolean) : xw E d M 1 pc lsc [.int (i32 x)] m (xrb x m) := by
  unfold xrb
  split
  · next h =>
    refine w_retv hi ?_
    unfold am_ret
    rw [hr]
    rcases h with rfl | rfl <;> rfl
  · exact w_none
/-! switches -/
def xbr (E : am_Env) (d : Nat) (M : am_M) (t pc : Nat) (lsc : am_L) (sk : List Value) (m : xm) : List Int → List xr → Prop
  | [], [] => True
  | f :: fs, A :: As => (∃ tg, am_to pc f = some tg ∧ xw E d M t tg lsc sk m A) ∧ xbr E d M t pc lsc sk m fs As
  | _, _ => False
theorem xsw_ok {E : am_Env} (x : Int) (D : xr) : ∀ (fs : List Int) (As : List xr) (lo : Int), xbr E d M t pc lsc sk m fs As → ((x < lo ∨ lo + fs.length ≤ x) → xsw x lo As D = D) ∧ (¬ (x < lo ∨ lo + fs.length ≤ x) → ∃ f tg, fs[(x - lo).toNat]? = some f ∧ am_to pc f = some tg ∧ xw E d M t tg lsc sk m (xsw x lo As D))
  | [], [], lo, _ => ⟨fun _ => rfl, fun h => by simp only [List.length_nil] at h; omega⟩
  | [], _ :: _, _, h => by cases h
  | _ :: _, [], _, h => by cases h
  | f :: fs, A :: As, lo, h => by
    obtain ⟨⟨tg, g1, g2⟩, g3⟩ := h
    have ih := xsw_ok x D fs As (lo + 1) g3
    simp only [List.length_cons]
    by_cases hx : x = lo
    · refine ⟨fun z => by omega, fun _ => ⟨f, tg, ?_, g1, ?_⟩⟩
      · subst hx
        rw [Int.sub_self]
        rfl
      · unfold xsw
        rw [if_pos hx]
        exact g2
    · unfold xsw
      rw [if_neg hx]
      refine ⟨fun z => ih.1 (by omega), fun z => ?_⟩
      obtain ⟨f1, tg1, k1, k2, k3⟩ := ih.2 (by omega)
      refine ⟨f1, tg1, ?_, k2, k3⟩
      rw [show (x - lo).toNat = (x - (lo + 1)).toNat + 1 by omega, List.getElem?_cons_succ]
      exact k1
theorem w_tsw {E : am_Env} {x x' : Int} {df lo hi : Int} {offs : Array Int} {fs : List Int} {As : List xr} {D : xr} {t0 : Nat} (hl : (am_cd M).lookup pc = some (.tableswitch df lo hi offs)) (hx : w32 x = x') (hfs : offs.toList = fs) (hn : lo + fs.length = hi + 1) (ht : am_to pc df = some t0) (hD : xw E d M t t0 lsc sk m D) (hA : xbr E d M t pc lsc sk m fs As) : xw E d M t pc lsc (.int (i32 x) :: sk) m (xsw x' lo As D) := by
  subst hx hfs
  have g := xsw_ok (w32 x) D _ As lo hA
  by_cases hb : w32 x < lo ∨ hi < w32 x
  · rw [g.1 (by omega)]
    have hb2 : (i32 x).toInt < lo ∨ hi < (i32 x).toInt := hb
    refine w_one hl rfl rfl (fun _ _ => ?_) hD
    simp only [am_one, if_pos hb2, ht]
  · obtain ⟨f, tg, k1, k2, k3⟩ := g.2 (by omega)
    have hb2 : ¬ ((i32 x).toInt < lo ∨ hi < (i32 x).toInt) := hb
    refine w_one hl rfl rfl (fun _ _ => ?_) k3
    have k1' : offs[((i32 x).toInt - lo).toNat]? = some f := by rw [← Array.getElem?_toList]; exact k1
    simp only [am_one, if_neg hb2, k1', k2]
def xbl (E : am_Env) (d : Nat) (M : am_M) (t pc : Nat) (lsc : am_L) (sk : List Value) (m : xm) : List (Int × Int) → List (Int × xr) → Prop
  | [], [] => True
  | f :: fs, A :: As => (f.1 = A.1 ∧ ∃ tg, am_to pc f.2 = some tg ∧ xw E d M t tg lsc sk m A.2) ∧ xbl E d M t pc lsc sk m fs As
  | _, _ => False
theorem xlw_ok {E : am_Env} (x : Int) (D : xr) (df : Int) {t0 : Nat} (ht : am_to pc df = some t0) (hD : xw E d M t t0 lsc sk m D) : ∀ (fs : List (Int × Int)) (As : List (Int × xr)), xbl E d M t pc lsc sk m fs As → ∃ tg, am_to pc (Op.lookupswitch.offset fs df x) = some tg ∧ xw E d M t tg lsc sk m (xlw x As D)
  | [], [], _ => ⟨t0, ht, hD⟩
  | [], _ :: _, h => by cases h
  | _ :: _, [], h => by cases h
  | f :: fs, A :: As, h => by
    obtain ⟨⟨e, tg, g1, g2⟩, g3⟩ := h
    obtain ⟨tg1, k1, k2⟩ := xlw_ok x D df ht hD fs As g3
    unfold xlw
    by_cases hx : x = A.1
    · rw [if_pos hx]
      refine ⟨tg, ?_, g2⟩
      have : Op.lookupswitch.offset (f :: fs) df x = f.2 := by
        simp [Op.lookupswitch.offset, List.find?_cons, e, hx]
      rw [this]
      exact g1
    · rw [if_neg hx]
      refine ⟨tg1, ?_, k2⟩
      have hne : ¬ f.1 = x := fun z => hx (by rw [← z, e])
      have : Op.lookupswitch.offset (f :: fs) df x = Op.lookupswitch.offset fs df x := by
        simp [Op.lookupswitch.offset, List.find?_cons, hne]
      rw [this]
      exact k1
theorem w_lsw {E : am_Env} {x x' : Int} {df : Int} {ps : Array (Int × Int)} {fs : List (Int × Int)} {As : List (Int × xr)} {D : xr} {t0 : Nat} (hl : (am_cd M).lookup pc = some (.lookupswitch df ps)) (hx : w32 x = x') (hfs : ps.toList = fs) (hs : (fs.zip (fs.drop 1)).all (fun (a, next) => a.1 < next.1) = true) (ht : am_to pc df = some t0) (hD : xw E d M t t0 lsc sk m D) (hA : xbl E d M t pc lsc sk m fs As) : xw E d M t pc lsc (.int (i32 x) :: sk) m (xlw x' As D) := by
  subst hx hfs
  obtain ⟨tg, k1, k2⟩ := xlw_ok (w32 x) D df ht hD _ As hA
  refine w_one hl rfl rfl (fun _ _ => ?_) k2
  have k1' : am_to pc (Op.lookupswitch.offset ps.toList df (i32 x).toInt) = some tg := k1
  simp only [am_one, if_pos hs, k1']
end XO
