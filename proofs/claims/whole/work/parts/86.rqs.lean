/-! the reference's reading of tests: what waits (139), the codes (138) -/
def QS (m : xm) (B : Int → Int) (n : Int) (q : Bool) (s : Int × Int) (W L : List Int) (o b : Int) : Prop := RS m B n s ∧ (ld m 78 86 = (W.length : Int) ∧ skr m 139 W) ∧ (ld m 78 84 = (L.length : Int) ∧ cdl m 138 (L.map rtk)) ∧ ld m 78 87 = o ∧ ld m 78 88 = b ∧ ld m 78 42 = if q = true then 0 else 1
def FQ (m m' : xm) : Prop := ∀ a k, ¬ (a = 78 ∧ (k = 2 ∨ k = 4 ∨ k = 5 ∨ k = 6 ∨ k = 84 ∨ k = 86 ∨ k = 87 ∨ k = 88)) → a ≠ 138 → a ≠ 139 → m' a k = m a k
/-- a fault, and room for one more code -/
def RBQ (m : xm) (k p : Int) : Prop := RB m k p ∧ 0 ≤ ld m 78 84 ∧ ld m 78 84 < 1700
theorem FQ_refl {m : xm} : FQ m m := fun _ _ _ _ _ => rfl
theorem FQ_trans {m1 m2 m3 : xm} (h1 : FQ m1 m2) (h2 : FQ m2 m3) : FQ m1 m3 := fun a k g1 g2 g3 => by rw [h2 a k g1 g2 g3, h1 a k g1 g2 g3]
theorem FQ_FR {m m' : xm} (h : FR m m') : FQ m m' := fun a k g1 _ _ => h a k (by omega)
theorem FQ_st {m : xm} {k v : Int} (h : k = 2 ∨ k = 4 ∨ k = 5 ∨ k = 6 ∨ k = 84 ∨ k = 86 ∨ k = 87 ∨ k = 88) : FQ m (st m 78 k v) := fun a j g1 _ _ => st_at (fun z => g1 (by rw [z.1, z.2]; exact ⟨rfl, h⟩))
theorem FQ_st8 {m : xm} {k v : Int} : FQ m (st m 138 k v) := fun a j _ g2 _ => st_at (fun z => g2 z.1)
theorem FQ_st9 {m : xm} {k v : Int} : FQ m (st m 139 k v) := fun a j _ _ g3 => st_at (fun z => g3 z.1)
section RQS
variable {B : Int → Int} {n : Int} {q : Bool} {m : xm} {s : Int × Int} {W L : List Int} {o b : Int}
theorem RS_cg {m' : xm} (S : RS m B n s) (e : ∀ a k, a = 78 ∧ 2 ≤ k ∧ k ≤ 6 ∨ a = 79 → m' a k = m a k) : RS m' B n s := by
  obtain ⟨T, ok, f5, f6, f2, f4⟩ := S
  have e2 := ldq (e 78 2 (by omega))
  exact ⟨RT_cg T (e 78 3 (by omega)) (fun i => e 79 i (by omega)), ok, by rw [ldq (e 78 5 (by omega)), f5], by rw [ldq (e 78 6 (by omega)), f6], by rw [e2]; exact f2, by rw [ldq (e 78 4 (by omega))]; exact f4⟩
/-- the reading went on, all else stays -/
theorem QS_FR {m' : xm} {s' : Int × Int} (Q : QS m B n q s W L o b) (R : RS m' B n s') (f : FR m m') : QS m' B n q s' W L o b := by
  obtain ⟨-, ⟨h1, h2⟩, ⟨h3, h4⟩, h5, h6, h7⟩ := Q
  exact ⟨R, ⟨by rw [ldq (f 78 86 (by omega)), h1], skr_cg h2 (fun i _ => ldq (f 139 i (by omega)))⟩, ⟨by rw [ldq (f 78 84 (by omega)), h3], cdl_cg h4 (fun i _ => f 138 i (by omega))⟩, by rw [ldq (f 78 87 (by omega)), h5], by rw [ldq (f 78 88 (by omega)), h6], by rw [ldq (f 78 42 (by omega)), h7]⟩
theorem rtk_rg {t : Int} (h1 : 0 ≤ t) (h2 : t ≤ 20000) : rg (rtk t) := by
  unfold rtk
  (repeat' split) <;> exact ⟨by omega, by omega⟩
theorem r_qCode_S {t : Int} (Q : QS m B n q s W L o b) (hl : L.length < 1700) (ht : 0 ≤ t ∧ t ≤ 20000) : ∃ m', r_qCode (rtk t) m = some (0, m') ∧ QS m' B n q s W (L ++ [t]) o b ∧ FQ m m' := by
  obtain ⟨R, ⟨h1, h2⟩, ⟨h3, h4⟩, h5, h6, h7⟩ := Q
  unfold r_qCode
  rw [h3, ias_in (by omega) (by rw [al138]; omega), stf_eq, ld_st_nc (by decide), h3]
  refine ⟨_, rfl, ⟨?_, ⟨?_, ?_⟩, ⟨?_, ?_⟩, ?_, ?_, ?_⟩, FQ_trans FQ_st8 (FQ_st (by decide))⟩
  · exact RS_cg R (fun a k z => by rw [st_at (by omega), st_at (by omega)])
  · rw [ld_st_ne (by decide), ld_st_nc (by decide), h1]
  · exact skr_cg h2 (fun i _ => by rw [ld_st_nc (by decide), ld_st_nc (by decide)])
  · rw [ld_st_eq, w32_id (by omega) (by omega), List.length_append, List.length_cons, List.length_nil]
    omega
  · rw [List.map_append]
    have := cdl_snoc (v := rtk t) h4 (rtk_rg ht.1 ht.2)
    rw [List.length_map] at this
    exact cdl_cg this (fun i _ => st_at (by omega))
  · rw [ld_st_ne (by decide), ld_st_nc (by decide), h5]
  · rw [ld_st_ne (by decide), ld_st_nc (by decide), h6]
  · rw [ld_st_ne (by decide), ld_st_nc (by decide), h7]
/-- what waits is pushed -/
theorem push_S {x : Int} (Q : QS m B n q s W L o b) (hl : W.length < 1700) (hx : rg x) : QS (st (st m 139 (W.length : Int) x) 78 86 ((W.length : Int) + 1)) B n q s (x :: W) L o b := by
  obtain ⟨R, ⟨h1, h2⟩, ⟨h3, h4⟩, h5, h6, h7⟩ := Q
  refine ⟨?_, ⟨?_, ?_, ?_⟩, ⟨?_, ?_⟩, ?_, ?_, ?_⟩
  · exact RS_cg R (fun a k z => by rw [st_at (by omega), st_at (by omega)])
  · rw [ld_st_eq, w32_id (by omega) (by omega), List.length_cons]
    omega
  · rw [ld_st_nc (by decide), ld_st_eq, w32_rg hx]
  · exact skr_cg h2 (fun i hi => by rw [ld_st_nc (by decide), ld_st_ne (by omega)])
  · rw [ld_st_ne (by decide), ld_st_nc (by decide), h3]
  · exact cdl_cg h4 (fun i _ => by rw [st_at (by omega), st_at (by omega)])
  · rw [ld_st_ne (by decide), ld_st_nc (by decide), h5]
  · rw [ld_st_ne (by decide), ld_st_nc (by decide), h6]
  · rw [ld_st_ne (by decide), ld_st_nc (by decide), h7]
/-- and taken away -/
theorem pop_S {x : Int} (Q : QS m B n q s (x :: W) L o b) : QS (st m 78 86 (W.length : Int)) B n q s W L o b ∨ 100000 < W.length := by
  by_cases hw : 100000 < W.length
  · exact Or.inr hw
  refine Or.inl ?_
  obtain ⟨R, ⟨h1, h2⟩, ⟨h3, h4⟩, h5, h6, h7⟩ := Q
  refine ⟨?_, ⟨?_, ?_⟩, ⟨?_, ?_⟩, ?_, ?_, ?_⟩
  · exact RS_cg R (fun a k z => st_at (by omega))
  · rw [ld_st_eq, w32_id (by omega) (by omega)]
  · exact skr_cg h2.2 (fun i hi => by rw [ld_st_nc (by decide)])
  · rw [ld_st_ne (by decide), h3]
  · exact cdl_cg h4 (fun i _ => st_at (by omega))
  · rw [ld_st_ne (by decide), h5]
  · rw [ld_st_ne (by decide), h6]
  · rw [ld_st_ne (by decide), h7]
/-- how many stand there -/
theorem opd_S {v : Int} (Q : QS m B n q s W L o b) (hv : rg v) : QS (st m 78 87 v) B n q s W L v b := by
  obtain ⟨R, ⟨h1, h2⟩, ⟨h3, h4⟩, h5, h6, h7⟩ := Q
  refine ⟨?_, ⟨?_, ?_⟩, ⟨?_, ?_⟩, ?_, ?_, ?_⟩
  · exact RS_cg R (fun a k z => st_at (by omega))
  · rw [ld_st_ne (by decide), h1]
  · exact skr_cg h2 (fun i hi => by rw [ld_st_nc (by decide)])
  · rw [ld_st_ne (by decide), h3]
  · exact cdl_cg h4 (fun i _ => st_at (by omega))
  · rw [ld_st_eq, w32_rg hv]
  · rw [ld_st_ne (by decide), h6]
  · rw [ld_st_ne (by decide), h7]
theorem bas_S {v : Int} (Q : QS m B n q s W L o b) (hv : rg v) : QS (st m 78 88 v) B n q s W L o v := by
  obtain ⟨R, ⟨h1, h2⟩, ⟨h3, h4⟩, h5, h6, h7⟩ := Q
  refine ⟨?_, ⟨?_, ?_⟩, ⟨?_, ?_⟩, ?_, ?_, ?_⟩
  · exact RS_cg R (fun a k z => st_at (by omega))
  · rw [ld_st_ne (by decide), h1]
  · exact skr_cg h2 (fun i hi => by rw [ld_st_nc (by decide)])
  · rw [ld_st_ne (by decide), h3]
  · exact cdl_cg h4 (fun i _ => st_at (by omega))
  · rw [ld_st_ne (by decide), h5]
  · rw [ld_st_eq, w32_rg hv]
  · rw [ld_st_ne (by decide), h7]
theorem r_qDrops_S {t : Int} (Q : QS m B n q s (rtk t :: W) L o b) (hw : W.length < 1700) (hl : L.length < 1700) (ht : 0 ≤ t ∧ t ≤ 20000) : ∃ m', r_qDrops m = some (0, m') ∧ QS m' B n q s W (L ++ [t]) o b ∧ FQ m m' := by
  have e1 : ld m 78 86 - 1 = (W.length : Int) := by
    rw [Q.2.1.1, List.length_cons]
    omega
  have e2 : ld (st m 78 86 (W.length : Int)) 139 (W.length : Int) = rtk t := by
    rw [ld_st_nc (by decide)]
    exact Q.2.1.2.1
  have Q1 := (pop_S Q).resolve_right (by omega)
  obtain ⟨m', a1, a2, a3⟩ := r_qCode_S Q1 hl ht
  unfold r_qDrops
  rw [stf_eq, e1, Q1.2.1.1, ial_in (by omega) (by rw [al139]; omega), e2, a1, bnd_some]
  exact ⟨m', rfl, a2, FQ_trans (FQ_st (by decide)) a3⟩
theorem r_qIsOn_S {v : Int} (Q : QS m B n q s W L o b) (hw : W.length < 1700) (hv : rg v) : (∀ x r, W = x :: r → r_qIsOn v m = some (if x = v then 1 else 0, m)) ∧ (W = [] → r_qIsOn v m = some (0, m)) := by
  obtain ⟨R, ⟨h1, h2⟩, -⟩ := Q
  unfold r_qIsOn
  constructor
  · intro x r e
    subst e
    have h3 := h2.1
    rw [List.length_cons] at hw h1
    rw [h1, if_neg (by omega), ial_in (by omega) (by rw [al139]; omega), show ((r.length + 1 : Nat) : Int) - 1 = (r.length : Int) by omega, w32_ld, w32_rg hv, h3]
    split <;> rfl
  · intro e
    subst e
    rw [h1, if_pos (by decide)]
theorem r_qOpens_S {x p : Int} (Q : QS m B n q s W L o b) (hw : W.length < 1700) (hx : rg x) (h0 : 0 ≤ o) (h6 : o ≤ 6) (hp : rg p) : (o < 6 → ∃ m', r_qOpens x p m = some (0, m') ∧ QS m' B n q s (x :: W) L (o + 1) b ∧ ld m' 78 2 = ld m 78 2 ∧ FQ m m') ∧ (¬ o < 6 → ∃ m', r_qOpens x p m = some (0, m') ∧ RB m' 4 p ∧ ld m' 78 84 = (L.length : Int) ∧ FQ m m') := by
  unfold r_qOpens
  rw [if_pos Q.1.2.2.1, Q.2.2.2.1]
  constructor
  · intro h
    have Q1 := opd_S (v := o + 1) Q ⟨by omega, by omega⟩
    rw [if_neg (by omega), stf_eq, Q1.2.1.1, ias_in (by omega) (by rw [al139]; omega), stf_eq, ld_st_nc (by decide), Q1.2.1.1]
    exact ⟨_, rfl, push_S Q1 hw hx, by rw [ld_st_ne (by decide), ld_st_nc (by decide), ld_st_ne (by decide)], FQ_trans (FQ_st (by decide)) (FQ_trans FQ_st9 (FQ_st (by decide)))⟩
  · intro h
    obtain ⟨m', a1, a2, a3⟩ := r_fail_S (k := 4) (p := p) Q.1 (by decide) (by decide) (by decide) hp
    rw [if_pos (by omega), a1, bnd_some]
    exact ⟨m', rfl, a2, by rw [ldq (a3 78 84 (by omega))]; exact Q.2.2.1.1, FQ_FR a3⟩
/-! brackets -/
def isB (x : Int) : Prop := 20 ≤ x ∧ x ≤ 24
theorem r_qIsBracket_ok {x : Int} (hx : rg x) : (isB x → r_qIsBracket x m = some (1, m)) ∧ (¬ isB x → r_qIsBracket x m = some (0, m)) := by
  unfold r_qIsBracket isB
  rw [w32_rg hx]
  constructor
  · intro h
    rw [if_neg (by omega), if_neg (by omega)]
  · intro h
    split
    · rfl
    · rw [if_pos (by omega)]
theorem ld_rg (m : xm) (a : Nat) (k : Int) : rg (ld m a k) := ⟨ld_ge m a k, ld_le m a k⟩
theorem skr_rg {a : Nat} {x : Int} {r : List Int} (h : skr m a (x :: r)) : rg x := by
  rw [← h.1]
  exact ld_rg _ _ _
theorem bracket_loop {x : Int} {W1 : List Int} (hx : isB x) (hb : b ≤ (W1.length : Int)) (h88 : ld m 78 88 = b) : ∀ (Pm : List Int) {f : Nat}, skr m 139 (Pm ++ x :: W1) → (∀ y ∈ Pm, ¬ isB y) → (Pm ++ x :: W1).length < 1700 → Pm.length < f → r_qBracket_7 f (((Pm ++ x :: W1).length : Int) - 1) m = some (x, m)
  | [], f, hs, _, hl, hf => by
    obtain ⟨f, rfl⟩ : ∃ f', f = f' + 1 := ⟨f - 1, by omega⟩
    rw [List.nil_append] at hs hl ⊢
    rw [List.length_cons] at hl
    rw [r_qBracket_7, h88, List.length_cons, show ((W1.length + 1 : Nat) : Int) - 1 = (W1.length : Int) by omega, w32_id (by omega) (by omega), if_neg (by omega), ial_in (by omega) (by rw [al139]; omega), hs.1, (r_qIsBracket_ok (skr_rg hs)).1 hx, bnd_some, if_neg (by decide)]
    unfold r_qBracket_33
    rw [h88, w32_id (by omega) (by omega), if_neg (by omega), ial_in (by omega) (by rw [al139]; omega), hs.1]
  | y :: Pm, f, hs, hy, hl, hf => by
    rw [List.length_cons] at hf
    obtain ⟨f, rfl⟩ : ∃ f', f = f' + 1 := ⟨f - 1, by omega⟩
    have ih := bracket_loop hx hb h88 Pm (f := f) hs.2 (fun z hz => hy z (List.mem_cons_of_mem _ hz)) (by rw [List.cons_append, List.length_cons] at hl; omega) (by omega)
    rw [List.cons_append] at hs hl ⊢
    rw [List.length_cons] at hl
    have le : W1.length < (Pm ++ x :: W1).length := by rw [List.length_append, List.length_cons]; omega
    rw [r_qBracket_7, h88, List.length_cons, show (((Pm ++ x :: W1).length + 1 : Nat) : Int) - 1 = ((Pm ++ x :: W1).length : Int) by omega, w32_id (by omega) (by omega), if_neg (by omega), ial_in (by omega) (by rw [al139]; omega), hs.1, (r_qIsBracket_ok (skr_rg hs)).2 (hy y List.mem_cons_self), bnd_some, if_pos (by rfl)]
    exact ih
theorem r_qBracket_S {x : Int} {Pm W1 : List Int} (Q : QS m B n q s (Pm ++ x :: W1) L o b) (hx : isB x) (hb : b ≤ (W1.length : Int)) (hy : ∀ y ∈ Pm, ¬ isB y) (hl : (Pm ++ x :: W1).length < 1700) : r_qBracket m = some (x, m) := by
  unfold r_qBracket
  rw [xlt_eq, Q.2.1.1]
  refine bracket_loop hx hb Q.2.2.2.2.1 Pm Q.2.1.2 hy hl ?_
  rw [List.length_append] at hl
  rw [xLF_eq]
  omega
theorem bracket_none {W1 : List Int} (hb : b = (W1.length : Int)) (h88 : ld m 78 88 = b) : ∀ (Pm : List Int) {f : Nat}, skr m 139 (Pm ++ W1) → (∀ y ∈ Pm, ¬ isB y) → (Pm ++ W1).length < 1700 → Pm.length < f → r_qBracket_7 f (((Pm ++ W1).length : Int) - 1) m = some (-1, m)
  | [], f, hs, _, hl, hf => by
    obtain ⟨f, rfl⟩ : ∃ f', f = f' + 1 := ⟨f - 1, by omega⟩
    rw [List.nil_append] at hs hl ⊢
    rw [r_qBracket_7, h88, w32_id (by omega) (by omega), if_pos (by omega)]
    unfold r_qBracket_33
    rw [h88, w32_id (by omega) (by omega), if_pos (by omega)]
  | y :: Pm, f, hs, hy, hl, hf => by
    rw [List.length_cons] at hf
    obtain ⟨f, rfl⟩ : ∃ f', f = f' + 1 := ⟨f - 1, by omega⟩
    have ih := bracket_none hb h88 Pm (f := f) hs.2 (fun z hz => hy z (List.mem_cons_of_mem _ hz)) (by rw [List.cons_append, List.length_cons] at hl; omega) (by omega)
    rw [List.cons_append] at hs hl ⊢
    rw [List.length_cons] at hl
    have le : W1.length ≤ (Pm ++ W1).length := by rw [List.length_append]; omega
    rw [r_qBracket_7, h88, List.length_cons, show (((Pm ++ W1).length + 1 : Nat) : Int) - 1 = ((Pm ++ W1).length : Int) by omega, w32_id (by omega) (by omega), if_neg (by omega), ial_in (by omega) (by rw [al139]; omega), hs.1, (r_qIsBracket_ok (skr_rg hs)).2 (hy y List.mem_cons_self), bnd_some, if_pos (by rfl)]
    exact ih
theorem r_qBracket_N {Pm W1 : List Int} (Q : QS m B n q s (Pm ++ W1) L o b) (hb : b = (W1.length : Int)) (hy : ∀ y ∈ Pm, ¬ isB y) (hl : (Pm ++ W1).length < 1700) : r_qBracket m = some (-1, m) := by
  unfold r_qBracket
  rw [xlt_eq, Q.2.1.1]
  refine bracket_none hb Q.2.2.2.2.1 Pm Q.2.1.2 hy hl ?_
  rw [List.length_append] at hl
  rw [xLF_eq]
  omega
end RQS
