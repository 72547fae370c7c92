/-! the program reads tests and sums as they are told -/
def cdl (m : xm) (a : Nat) (L : List Int) : Prop := ∀ i : Nat, i < L.length → ld m a (i : Int) = L.getD i 0
def CD (m : xm) (c : Nat) (L : List Int) : Prop := ld m c 2 = (L.length : Int) ∧ cdl m (c + 1) L ∧ L.length ≤ 1600
def FC (c : Nat) (m m' : xm) : Prop := ∀ a k, a ≠ 3 → ¬ (a = c ∧ k = 2) → a ≠ c + 1 → m' a k = m a k
theorem FC_refl {c : Nat} {m : xm} : FC c m m := fun _ _ _ _ _ => rfl
theorem FC_trans {c : Nat} {m1 m2 m3 : xm} (h1 : FC c m1 m2) (h2 : FC c m2 m3) : FC c m1 m3 := fun a k g1 g2 g3 => by rw [h2 a k g1 g2 g3, h1 a k g1 g2 g3]
theorem FC_F3 {c : Nat} {m m' : xm} (h : F3 m m') : FC c m m' := fun a k g _ _ => h a k g
theorem cdl_cg {m m' : xm} {a : Nat} {L : List Int} (H : cdl m a L) (e : ∀ i : Nat, i < L.length → m' a (i : Int) = m a (i : Int)) : cdl m' a L := fun i hi => by rw [ldq (e i hi)]; exact H i hi
theorem cdl_snoc {m : xm} {a : Nat} {L : List Int} {v : Int} (H : cdl m a L) (hv : rg v) : cdl (st m a (L.length : Int) v) a (L ++ [v]) := by
  intro i hi
  rw [List.length_append, List.length_cons, List.length_nil] at hi
  by_cases c : i = L.length
  · rw [c, ld_st_eq, w32_rg hv, List.getD_eq_getElem?_getD, List.getElem?_append_right (Nat.le_refl _), Nat.sub_self]
    rfl
  · rw [ld_st_ne (by omega), H i (by omega), List.getD_eq_getElem?_getD, List.getD_eq_getElem?_getD, List.getElem?_append_left (by omega)]
theorem CD_cg {m m' : xm} {c : Nat} {L : List Int} (H : CD m c L) (e1 : m' c 2 = m c 2) (e2 : ∀ k, m' (c + 1) k = m (c + 1) k) : CD m' c L := ⟨by rw [ldq e1]; exact H.1, cdl_cg H.2.1 (fun i _ => e2 i), H.2.2⟩
theorem isC_3 {c : Nat} (h : isC c) : 3 < c := by rcases h with rfl | rfl | rfl <;> decide
theorem CD_F3 {m m' : xm} {c : Nat} {L : List Int} (pc : isC c) (H : CD m c L) (f : F3 m m') : CD m' c L := by
  have := isC_3 pc
  exact CD_cg H (f c 2 (by omega)) (fun k => f (c + 1) k (by omega))
section CTX
variable {B : Int → Int} {n : Int} {c : Nat}
theorem CS_cg {m m' : xm} {s : Int × Int} (S : CS m B n s) (e : ∀ a k, a ≤ 3 → m' a k = m a k) : CS m' B n s := by
  obtain ⟨T, ok, f4, f5, f1, f2, f3⟩ := S
  exact ⟨CT_cg T (e 1 1 (by decide)) (fun i => e 2 i (by decide)), ok, by rw [ldq (e 3 4 (by decide)), f4], by rw [ldq (e 3 5 (by decide)), f5], by rw [ldq (e 3 1 (by decide)), f1], by rw [ldq (e 3 2 (by decide)), f2], by rw [ldq (e 3 3 (by decide)), f3]⟩
theorem CF_cg {m m' : xm} {k p : Int} (F : CF m k p) (e : ∀ a k, a ≤ 3 → m' a k = m a k) : CF m' k p := ⟨F.1, by rw [ldq (e 3 4 (by decide))]; exact F.2.1, by rw [ldq (e 3 5 (by decide))]; exact F.2.2.1, by rw [ldq (e 3 1 (by decide))]; exact F.2.2.2⟩
theorem cC_add_ok {m : xm} {L : List Int} {v : Int} (pc : isC c) (H : CD m c L) (hl : L.length < 1600) (hv : rg v) : ∃ m', cC_add c v m = some (0, m') ∧ CD m' c (L ++ [v]) ∧ ∀ a k, ¬ (a = c ∧ k = 2) → a ≠ c + 1 → m' a k = m a k := by
  have al := alnC pc
  obtain ⟨h1, h2, h3⟩ := H
  unfold cC_add
  rw [h1, if_neg (by omega), setCell_in (by omega) (by omega), bnd_some, stf_eq, ld_st_nc (by omega), h1]
  refine ⟨_, rfl, ⟨?_, ?_, by rw [List.length_append, List.length_cons, List.length_nil]; omega⟩, fun a k g1 g2 => by rw [st_at g1, st_at (fun z => g2 z.1)]⟩
  · rw [ld_st_eq, w32_id (by omega) (by omega), List.length_append, List.length_cons, List.length_nil]
    omega
  · exact cdl_cg (cdl_snoc h2 hv) (fun i _ => st_at (by omega))
theorem cC_add_any {m : xm} {v : Int} (pc : isC c) : ∃ m', cC_add c v m = some (0, m') ∧ ∀ a k, ¬ (a = c ∧ k = 2) → a ≠ c + 1 → m' a k = m a k := by
  have al := alnC pc
  unfold cC_add
  by_cases h : 1600 ≤ ld m c 2
  · rw [if_pos h]
    exact ⟨m, rfl, fun _ _ _ _ => rfl⟩
  · rw [if_neg h]
    by_cases h2 : 0 ≤ ld m c 2
    · rw [setCell_in h2 (by omega), bnd_some, stf_eq]
      exact ⟨_, rfl, fun a k g1 g2 => by rw [st_at g1, st_at (fun z => g2 z.1)]⟩
    · rw [setCell_out (Or.inl (by rw [w32_ld]; omega)), bnd_some, stf_eq]
      exact ⟨_, rfl, fun a k g1 g2 => by rw [st_at g1]⟩
/-- what the program does where such a reading is told -/
def CR (B : Int → Int) (n : Int) (c : Nat) (m0 : xm) (L : List Int) (r : PRS) (X : xr) : Prop :=
  (∀ s' C, r = .inr (s', C) → ∃ m', X = some (0, m') ∧ CS m' B n s' ∧ CD m' c (L ++ C) ∧ FC c m0 m') ∧
  (∀ k p, r = .inl (k, p) → ∃ m', X = some (0, m') ∧ CF m' k p ∧ FC c m0 m')
theorem CR_inr {m0 m' : xm} {L C : List Int} {s' : Int × Int} (h1 : CS m' B n s') (h2 : CD m' c (L ++ C)) (h3 : FC c m0 m') : CR B n c m0 L (.inr (s', C)) (some (0, m')) := ⟨fun s C z => by cases z; exact ⟨m', rfl, h1, h2, h3⟩, fun k p z => by cases z⟩
theorem CR_inl {m0 m' : xm} {L : List Int} {k p : Int} (h1 : CF m' k p) (h3 : FC c m0 m') : CR B n c m0 L (.inl (k, p)) (some (0, m')) := ⟨fun s C z => (by cases z), fun k p z => by cases z; exact ⟨m', rfl, h1, h3⟩⟩
theorem CR_bnd {m0 m1 : xm} {L L1 : List Int} {r : PRS} {X : xr} {f : (Int × Int) → List Int → PRS} {K : Int → xm → xr} (hf : FC c m0 m1) (h : CR B n c m1 L1 r X)
    (ok : ∀ s2 C2 m2, r = .inr (s2, C2) → CS m2 B n s2 → CD m2 c (L1 ++ C2) → FC c m0 m2 → CR B n c m0 L (f s2 C2) (K 0 m2))
    (bad : ∀ k p m2, CF m2 k p → FC c m0 m2 → CR B n c m0 L (.inl (k, p)) (K 0 m2)) : CR B n c m0 L (sbd r f) (bnd X K) := by
  cases r with
  | inl e =>
    obtain ⟨k, p⟩ := e
    obtain ⟨m', a1, a2, a3⟩ := h.2 k p rfl
    rw [a1, bnd_some]
    exact bad k p m' a2 (FC_trans hf a3)
  | inr x =>
    obtain ⟨s', C⟩ := x
    obtain ⟨m', a1, a2, a3, a4⟩ := h.1 s' C rfl
    rw [a1, bnd_some]
    exact ok s' C m' rfl a2 a3 (FC_trans hf a4)
/-- the last of it -/
theorem CR_end {m0 : xm} {L : List Int} {r : PRS} {X : xr} (h : CR B n c m0 L r X) : CR B n c m0 L r (bnd X fun _ m => some (0, m)) := by
  refine ⟨fun s' C z => ?_, fun k p z => ?_⟩
  · obtain ⟨m', a1, a2⟩ := h.1 s' C z
    exact ⟨m', by rw [a1, bnd_some], a2⟩
  · obtain ⟨m', a1, a2⟩ := h.2 k p z
    exact ⟨m', by rw [a1, bnd_some], a2⟩
/-- from another beginning -/
theorem CR_to {m0 m1 : xm} {L C1 : List Int} {r : PRS} {X : xr} (hf : FC c m0 m1) (h : CR B n c m1 L r X) : CR B n c m0 L r X := by
  refine ⟨fun s' C z => ?_, fun k p z => ?_⟩
  · obtain ⟨m', a1, a2, a3, a4⟩ := h.1 s' C z
    exact ⟨m', a1, a2, a3, FC_trans hf a4⟩
  · obtain ⟨m', a1, a2, a3⟩ := h.2 k p z
    exact ⟨m', a1, a2, FC_trans hf a3⟩
theorem CR_add {m0 m1 : xm} {L C C' : List Int} {t : Int} {s' : Int × Int} (pc : isC c) (h1 : CS m1 B n s') (h2 : CD m1 c (L ++ C)) (h3 : FC c m0 m1) (hl : (L ++ C).length < 1600) (ht : rg t) (e : C' = C ++ [t]) : CR B n c m0 L (.inr (s', C')) (bnd (cC_add c t m1) fun _ m => some (0, m)) := by
  have p3 := isC_3 pc
  obtain ⟨m', a1, a2, a3⟩ := cC_add_ok pc h2 hl ht
  rw [a1, bnd_some]
  refine CR_inr (CS_cg h1 (fun a k g => a3 a k (by omega) (by omega))) ?_ (FC_trans h3 (fun a k _ g2 g3 => a3 a k g2 g3))
  rw [e, ← List.append_assoc]
  exact a2
theorem CR_badd {m0 m1 : xm} {L : List Int} {k p t : Int} (pc : isC c) (h1 : CF m1 k p) (h3 : FC c m0 m1) : ∃ m', cC_add c t m1 = some (0, m') ∧ CF m' k p ∧ FC c m0 m' := by
  have p3 := isC_3 pc
  obtain ⟨m', a1, a3⟩ := cC_add_any (m := m1) (v := t) pc
  exact ⟨m', a1, CF_cg h1 (fun a k g => a3 a k (by omega) (by omega)), FC_trans h3 (fun a k _ g2 g3 => a3 a k g2 g3)⟩
/-- the loops: one more as long as a sign or word says so -/
theorem CR_lp {tk : (Int × Int) → Option Int} {sub : (Int × Int) → PRS} {TK : xm → (Int → xm → xr) → xr} {S : xm → xr} {LOOP : Nat → Int → xm → xr} (pc : isC c) (hn : n ≤ 1600)
    (hL : ∀ f k m, LOOP (f + 1) k m = if 1600 ≤ w32 k then some (0, m) else TK m (fun t m2 => bnd (S m2) fun _ m4 => bnd (cC_add c t m4) fun _ m6 => LOOP f (k + 1) m6))
    (hT : ∀ {m : xm} {s : Int × Int} {K : Int → xm → xr}, CS m B n s → (tk s = none → TK m K = some (0, m)) ∧ ∀ t, tk s = some t → ∃ m', TK m K = K t m' ∧ CS m' B n (nx B n s) ∧ F3 m m')
    (hTF : ∀ {m : xm} {K : Int → xm → xr} {k p : Int}, CF m k p → TK m K = some (0, m))
    (htk : ∀ s t, tk s = some t → tkd B n s ≠ 0 ∧ rg t)
    (hS : ∀ {m : xm} {s : Int × Int} {L : List Int}, CS m B n s → CD m c L → (L.length : Int) ≤ s.1 → CR B n c m L (sub s) (S m))
    (hSg : ∀ s s' C, okT n s → sub s = .inr (s', C) → okT n s' ∧ s.1 < s'.1 ∧ s.1 + (C.length : Int) ≤ s'.1)
    {m0 : xm} {L : List Int} : ∀ (g : Nat) {f : Nat} {m : xm} {s : Int × Int} {C : List Int} {k : Int}, CS m B n s → CD m c (L ++ C) → FC c m0 m → ((L ++ C).length : Int) ≤ s.1 → 0 ≤ k → k ≤ s.1 → (n - s.1).toNat < g → (n - s.1).toNat + 1 < f → CR B n c m0 L (lp B n tk sub g s C) (LOOP f k m)
  | 0, _, _, _, _, _, _, _, _, _, _, _, hg, _ => by omega
  | g + 1, f, m, s, C, k, hs, hd, hf, hl, hk0, hk1, hg, hff => by
    have p3 := isC_3 pc
    have ok := hs.2.1
    have o1 := ok.1
    have o2 := ok.2.1
    obtain ⟨f, rfl⟩ : ∃ f', f = f' + 1 := ⟨f - 1, by omega⟩
    rw [hL, lp, w32_id (by omega) (by omega)]
    by_cases ck : 1600 ≤ k
    · have e : tkd B n s = 0 := by
        rw [tkd_0 (CT_TB hs.1) ok]
        have := tq_rng (B := B) ok
        omega
      rw [if_pos ck]
      cases ht : tk s with
      | none => exact CR_inr hs hd hf
      | some t => exact absurd e (htk s t ht).1
    · rw [if_neg ck]
      cases ht : tk s with
      | none =>
        rw [(hT hs).1 ht]
        exact CR_inr hs hd hf
      | some t =>
        have gt := nx_gt ok (htk s t ht).1
        obtain ⟨m1, a1, a2, a3⟩ := (hT (K := fun t m2 => bnd (S m2) fun _ m4 => bnd (cC_add c t m4) fun _ m6 => LOOP f (k + 1) m6) hs).2 t ht
        rw [a1]
        dsimp only [obd]
        have hd1 := CD_F3 pc hd a3
        have hf1 := FC_trans hf (FC_F3 a3)
        refine CR_bnd hf1 (hS a2 hd1 (by omega)) ?_ ?_
        · intro s2 C2 m2 e2 b1 b2 b3
          obtain ⟨k1, k2, k3⟩ := hSg _ s2 C2 a2.2.1 e2
          have o3 := k1.2.1
          rw [List.length_append] at hl
          obtain ⟨m3, d1, d2, d3⟩ := cC_add_ok (v := t) pc b2 (by rw [List.length_append, List.length_append]; omega) (htk s t ht).2
          rw [d1, bnd_some]
          rw [List.append_assoc, List.append_assoc] at d2
          refine CR_lp pc hn hL hT hTF htk hS hSg g (CS_cg b1 (fun a k g => d3 a k (by omega) (by omega))) d2 (FC_trans b3 (fun a k _ g2 g3 => d3 a k g2 g3)) ?_ (by omega) (by omega) (by omega) (by omega)
          rw [List.length_append, List.length_append, List.length_append, List.length_cons, List.length_nil]
          omega
        · intro k' p m2 b1 b2
          obtain ⟨m3, d1, d2, d3⟩ := CR_badd (L := L) (t := t) pc b1 b2
          rw [d1, bnd_some]
          obtain ⟨f, rfl⟩ : ∃ f', f = f' + 1 := ⟨f - 1, by omega⟩
          rw [hL, hTF d2]
          split
          · exact CR_inl d2 d3
          · exact CR_inl d2 d3
end CTX
