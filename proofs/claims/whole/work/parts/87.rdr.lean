/-! what waits is dropped into the codes -/
def isSO (t : Int) : Prop := 10030 ≤ t ∧ t ≤ 10033
def isPO (t : Int) : Prop := t = 10032 ∨ t = 10033
def isOF (t : Int) : Prop := t = 10011 ∨ t = 10012
theorem rtk_SO {t : Int} (h : isSO t) : rtk t = t - 10029 ∧ 1 ≤ rtk t ∧ rtk t ≤ 4 := by
  unfold isSO at h
  rcases (show t = 10030 ∨ t = 10031 ∨ t = 10032 ∨ t = 10033 by omega) with rfl | rfl | rfl | rfl <;> decide
theorem rtk_PO {t : Int} (h : isPO t) : rtk t = 3 ∨ rtk t = 4 := by
  rcases h with rfl | rfl
  · exact Or.inl rfl
  · exact Or.inr rfl
theorem PO_SO {t : Int} (h : isPO t) : isSO t := by
  unfold isPO at h
  unfold isSO
  omega
theorem rtk_OF {t : Int} (h : isOF t) : rtk t = 60 ∨ rtk t = 61 := by
  rcases h with rfl | rfl
  · exact Or.inl rfl
  · exact Or.inr rfl
def tpo (W : List Int) (p : Int → Prop) : Prop := ∀ x r, W = x :: r → p x
section RDR
variable {B : Int → Int} {n : Int} {q : Bool} {s : Int × Int} {o b : Int}
theorem toBracket_loop {x : Int} {W1 : List Int} (hx : isB x) (hb : b ≤ (W1.length : Int)) : ∀ (Pm : List Int) {f : Nat} {m : xm} {L : List Int}, QS m B n q s (Pm.map rtk ++ x :: W1) L o b → (∀ y ∈ Pm, isSO y) → Pm.length + (x :: W1).length + L.length < 1700 → Pm.length < f → ∃ m', r_qDropsToBracket_0 f m = some (0, m') ∧ QS m' B n q s (x :: W1) (L ++ Pm) o b ∧ FQ m m'
  | [], f, m, L, Q, _, hl, hf => by
    obtain ⟨f, rfl⟩ : ∃ f', f = f' + 1 := ⟨f - 1, by omega⟩
    rw [List.map_nil, List.nil_append] at Q
    rw [List.length_cons] at hl
    have e := Q.2.1.1
    rw [List.length_cons] at e
    refine ⟨m, ?_, by rw [List.append_nil]; exact Q, FQ_refl⟩
    rw [r_qDropsToBracket_0, e, Q.2.2.2.2.1, if_neg (by omega), show ((W1.length + 1 : Nat) : Int) - 1 = (W1.length : Int) by omega, ial_in (by omega) (by rw [al139]; omega), Q.2.1.2.1, (r_qIsBracket_ok (skr_rg Q.2.1.2)).1 hx, bnd_some, if_neg (by decide)]
  | y :: Pm, f, m, L, Q, hy, hl, hf => by
    rw [List.length_cons] at hf
    rw [List.length_cons, List.length_cons] at hl
    obtain ⟨f, rfl⟩ : ∃ f', f = f' + 1 := ⟨f - 1, by omega⟩
    have hS := hy y List.mem_cons_self
    have hr := rtk_SO hS
    unfold isSO at hS
    rw [List.map_cons, List.cons_append] at Q
    have le : (Pm.map rtk ++ x :: W1).length = Pm.length + (W1.length + 1) := by rw [List.length_append, List.length_map, List.length_cons]
    obtain ⟨m1, a1, a2, a3⟩ := r_qDrops_S Q (by omega) (by omega) (by omega)
    obtain ⟨m2, b1, b2, b3⟩ := toBracket_loop hx hb Pm (f := f) a2 (fun z hz => hy z (List.mem_cons_of_mem _ hz)) (by rw [List.length_append, List.length_cons, List.length_cons, List.length_nil]; omega) (by omega)
    have e := Q.2.1.1
    rw [List.length_cons, le] at e
    have e2 := Q.2.1.2.1
    rw [le] at e2
    refine ⟨m2, ?_, by rw [List.append_assoc] at b2; exact b2, FQ_trans a3 b3⟩
    rw [r_qDropsToBracket_0, e, Q.2.2.2.2.1, if_neg (by omega), show ((Pm.length + (W1.length + 1) + 1 : Nat) : Int) - 1 = ((Pm.length + (W1.length + 1) : Nat) : Int) by omega, ial_in (by omega) (by rw [al139]; omega), e2, (r_qIsBracket_ok (skr_rg Q.2.1.2)).2 (by unfold isB; omega), bnd_some, if_pos (by rfl), a1, bnd_some, b1]
theorem toBracket_S {x : Int} {W1 Pm L : List Int} {m : xm} (hx : isB x) (hb : b ≤ (W1.length : Int)) (Q : QS m B n q s (Pm.map rtk ++ x :: W1) L o b) (hy : ∀ y ∈ Pm, isSO y) (hl : Pm.length + (x :: W1).length + L.length < 1700) : ∃ m', r_qDropsToBracket m = some (0, m') ∧ QS m' B n q s (x :: W1) (L ++ Pm) o b ∧ FQ m m' := toBracket_loop hx hb Pm Q hy hl (by rw [xLF_eq]; omega)
theorem endsPart_loop {W1 : List Int} (hb0 : 0 ≤ b) (hb : b ≤ (W1.length : Int)) (htp : tpo W1 (fun x => x < 60)) : ∀ (U : List Int) {f : Nat} {m : xm} {L : List Int} {o : Int}, QS m B n q s (U.map rtk ++ W1) L o b → (∀ y ∈ U, isOF y) → U.length + W1.length + L.length < 1700 → (U.length : Int) ≤ o → o ≤ 6 → U.length < f → ∃ m', r_qEndsPart_0 f m = some (0, m') ∧ QS m' B n q s W1 (L ++ U) (o - U.length) b ∧ FQ m m'
  | [], f, m, L, o, Q, _, hl, ho, ho6, hf => by
    obtain ⟨f, rfl⟩ : ∃ f', f = f' + 1 := ⟨f - 1, by omega⟩
    rw [List.map_nil, List.nil_append] at Q
    refine ⟨m, ?_, by rw [List.append_nil, List.length_nil]; rw [show o - ((0 : Nat) : Int) = o by omega]; exact Q, FQ_refl⟩
    rw [r_qEndsPart_0, if_pos Q.1.2.2.1, Q.2.1.1, Q.2.2.2.2.1]
    by_cases c : (W1.length : Int) ≤ b
    · rw [if_pos c]
    · rw [if_neg c]
      cases W1 with
      | nil => exact absurd hb0 (by rw [List.length_nil] at c; omega)
      | cons x r =>
        rw [List.length_cons] at hl ⊢
        rw [show ((r.length + 1 : Nat) : Int) - 1 = (r.length : Int) by omega, ial_in (by omega) (by rw [al139]; omega), w32_ld, Q.2.1.2.1, if_pos (htp x r rfl)]
  | y :: U, f, m, L, o, Q, hy, hl, ho, ho6, hf => by
    rw [List.length_cons] at hf hl ho
    obtain ⟨f, rfl⟩ : ∃ f', f = f' + 1 := ⟨f - 1, by omega⟩
    have hS := hy y List.mem_cons_self
    have hr := rtk_OF hS
    unfold isOF at hS
    rw [List.map_cons, List.cons_append] at Q
    have le : (U.map rtk ++ W1).length = U.length + W1.length := by rw [List.length_append, List.length_map]
    have Q1 := opd_S (v := o - 1) Q ⟨by omega, by omega⟩
    obtain ⟨m1, a1, a2, a3⟩ := r_qDrops_S Q1 (by omega) (by omega) (by omega)
    obtain ⟨m2, b1, b2, b3⟩ := endsPart_loop hb0 hb htp U (f := f) a2 (fun z hz => hy z (List.mem_cons_of_mem _ hz)) (by rw [List.length_append, List.length_cons, List.length_nil]; omega) (by omega) (by omega) (by omega)
    have e := Q.2.1.1
    rw [List.length_cons, le] at e
    have e2 := Q.2.1.2.1
    rw [le] at e2
    refine ⟨m2, ?_, ?_, FQ_trans (FQ_trans (FQ_st (by decide)) a3) b3⟩
    · rw [r_qEndsPart_0, if_pos Q.1.2.2.1, e, Q.2.2.2.2.1, if_neg (by omega), show ((U.length + W1.length + 1 : Nat) : Int) - 1 = ((U.length + W1.length : Nat) : Int) by omega, ial_in (by omega) (by rw [al139]; omega), w32_ld, e2, if_neg (by omega), stf_eq, Q.2.2.2.1, a1, bnd_some, b1]
    · rw [List.append_assoc] at b2
      rw [List.length_cons, show o - ((U.length + 1 : Nat) : Int) = o - 1 - (U.length : Int) by omega]
      exact b2
theorem endsPart_S {W1 U L : List Int} {m : xm} (hb0 : 0 ≤ b) (hb : b ≤ (W1.length : Int)) (htp : tpo W1 (fun x => x < 60)) (Q : QS m B n q s (U.map rtk ++ W1) L o b) (hy : ∀ y ∈ U, isOF y) (hl : U.length + W1.length + L.length < 1700) (ho : (U.length : Int) ≤ o) (ho6 : o ≤ 6) : ∃ m', r_qEndsPart m = some (0, m') ∧ QS m' B n q s W1 (L ++ U) (o - U.length) b ∧ FQ m m' := endsPart_loop hb0 hb htp U Q hy hl ho ho6 (by rw [xLF_eq]; omega)
/-- a sign of products -/
theorem times_loop {W1 : List Int} (htp : tpo W1 (fun x => x ≠ 3 ∧ x ≠ 4)) {t : Int} (ht : isPO t) : ∀ (Pm : List Int) {f : Nat} {m : xm} {L : List Int}, QS m B n q s (Pm.map rtk ++ W1) L o b → (∀ y ∈ Pm, isPO y) → Pm.length + W1.length + L.length < 1690 → Pm.length < f → ∃ m', r_qGoesOn_162 f (rtk t) m = some (1, m') ∧ QS m' B n q s (rtk t :: W1) (L ++ Pm) o b ∧ FQ m m'
  | [], f, m, L, Q, _, hl, hf => by
    obtain ⟨f, rfl⟩ : ∃ f', f = f' + 1 := ⟨f - 1, by omega⟩
    rw [List.map_nil, List.nil_append] at Q
    have h3 := r_qIsOn_S (v := 3) Q (by omega) ⟨by decide, by decide⟩
    have h4 := r_qIsOn_S (v := 4) Q (by omega) ⟨by decide, by decide⟩
    have e3 : r_qIsOn 3 m = some (0, m) := by
      cases W1 with
      | nil => exact h3.2 rfl
      | cons x r => rw [h3.1 x r rfl, if_neg (htp x r rfl).1]
    have e4 : r_qIsOn 4 m = some (0, m) := by
      cases W1 with
      | nil => exact h4.2 rfl
      | cons x r => rw [h4.1 x r rfl, if_neg (htp x r rfl).2]
    have hr := rtk_PO ht
    rw [List.length_nil] at hl
    rw [r_qGoesOn_162, e3, bnd_some, if_pos (by rfl), e4, bnd_some, if_pos (by rfl)]
    unfold r_qGoesOn_185
    rw [Q.2.1.1, ias_in (by omega) (by rw [al139]; omega), stf_eq, ld_st_nc (by decide), Q.2.1.1]
    exact ⟨_, rfl, by rw [List.append_nil]; exact push_S Q (by omega) ⟨by omega, by omega⟩, FQ_trans FQ_st9 (FQ_st (by decide))⟩
  | y :: Pm, f, m, L, Q, hy, hl, hf => by
    rw [List.length_cons] at hf hl
    obtain ⟨f, rfl⟩ : ∃ f', f = f' + 1 := ⟨f - 1, by omega⟩
    have hS := hy y List.mem_cons_self
    have hr := rtk_PO hS
    unfold isPO at hS
    rw [List.map_cons, List.cons_append] at Q
    have le : (Pm.map rtk ++ W1).length = Pm.length + W1.length := by rw [List.length_append, List.length_map]
    have h3 := (r_qIsOn_S (v := 3) Q (by rw [List.length_cons]; omega) ⟨by decide, by decide⟩).1 _ _ rfl
    have h4 := (r_qIsOn_S (v := 4) Q (by rw [List.length_cons]; omega) ⟨by decide, by decide⟩).1 _ _ rfl
    obtain ⟨m1, a1, a2, a3⟩ := r_qDrops_S Q (by omega) (by omega) (by omega)
    obtain ⟨m2, b1, b2, b3⟩ := times_loop htp ht Pm (f := f) a2 (fun z hz => hy z (List.mem_cons_of_mem _ hz)) (by rw [List.length_append, List.length_cons, List.length_nil]; omega) (by omega)
    refine ⟨m2, ?_, by rw [List.append_assoc] at b2; exact b2, FQ_trans a3 b3⟩
    have e : r_qGoesOn_178 (fun v1 m => r_qGoesOn_162 f v1 m) (rtk t) m = some (1, m2) := by
      unfold r_qGoesOn_178
      rw [a1, bnd_some]
      exact b1
    rw [r_qGoesOn_162, h3, bnd_some, i01]
    by_cases c : rtk y = 3
    · rw [if_pos c, if_neg (by decide), e]
    · rw [if_neg c, if_pos rfl, h4, bnd_some, i01, if_pos (hr.resolve_left c), if_neg (by decide), e]
/-- a sign of sums -/
theorem plus_loop {W1 : List Int} (htp : tpo W1 (fun x => x ≠ 1 ∧ x ≠ 2 ∧ x ≠ 3 ∧ x ≠ 4)) {t : Int} (ht : isSO t) : ∀ (Pm : List Int) {f : Nat} {m : xm} {L : List Int}, QS m B n q s (Pm.map rtk ++ W1) L o b → (∀ y ∈ Pm, isSO y) → Pm.length + W1.length + L.length < 1690 → Pm.length < f → ∃ m', r_qGoesOn_247 f (rtk t) m = some (1, m') ∧ QS m' B n q s (rtk t :: W1) (L ++ Pm) o b ∧ FQ m m'
  | [], f, m, L, Q, _, hl, hf => by
    obtain ⟨f, rfl⟩ : ∃ f', f = f' + 1 := ⟨f - 1, by omega⟩
    rw [List.map_nil, List.nil_append] at Q
    have e : ∀ v, v = 1 ∨ v = 2 ∨ v = 3 ∨ v = 4 → r_qIsOn v m = some (0, m) := by
      intro v hv
      have h3 := r_qIsOn_S (v := v) Q (by omega) ⟨by omega, by omega⟩
      cases W1 with
      | nil => exact h3.2 rfl
      | cons x r => rw [h3.1 x r rfl, if_neg (by have := htp x r rfl; omega)]
    have hr := rtk_SO ht
    rw [List.length_nil] at hl
    rw [r_qGoesOn_247, e 3 (by decide), bnd_some, if_pos (by rfl), e 4 (by decide), bnd_some, if_pos (by rfl), e 1 (by decide), bnd_some, if_pos (by rfl), e 2 (by decide), bnd_some, if_pos (by rfl)]
    unfold r_qGoesOn_286
    rw [Q.2.1.1, ias_in (by omega) (by rw [al139]; omega), stf_eq, ld_st_nc (by decide), Q.2.1.1]
    exact ⟨_, rfl, by rw [List.append_nil]; exact push_S Q (by omega) ⟨by omega, by omega⟩, FQ_trans FQ_st9 (FQ_st (by decide))⟩
  | y :: Pm, f, m, L, Q, hy, hl, hf => by
    rw [List.length_cons] at hf hl
    obtain ⟨f, rfl⟩ : ∃ f', f = f' + 1 := ⟨f - 1, by omega⟩
    have hS := hy y List.mem_cons_self
    have hr := rtk_SO hS
    unfold isSO at hS
    rw [List.map_cons, List.cons_append] at Q
    have le : (Pm.map rtk ++ W1).length = Pm.length + W1.length := by rw [List.length_append, List.length_map]
    have h : ∀ v, v = 1 ∨ v = 2 ∨ v = 3 ∨ v = 4 → r_qIsOn v m = some (if rtk y = v then 1 else 0, m) := fun v hv => (r_qIsOn_S (v := v) Q (by rw [List.length_cons]; omega) ⟨by omega, by omega⟩).1 _ _ rfl
    obtain ⟨m1, a1, a2, a3⟩ := r_qDrops_S Q (by omega) (by omega) (by omega)
    obtain ⟨m2, b1, b2, b3⟩ := plus_loop htp ht Pm (f := f) a2 (fun z hz => hy z (List.mem_cons_of_mem _ hz)) (by rw [List.length_append, List.length_cons, List.length_nil]; omega) (by omega)
    refine ⟨m2, ?_, by rw [List.append_assoc] at b2; exact b2, FQ_trans a3 b3⟩
    have e : r_qGoesOn_279 (fun v1 m => r_qGoesOn_247 f v1 m) (rtk t) m = some (1, m2) := by
      unfold r_qGoesOn_279
      rw [a1, bnd_some]
      exact b1
    rw [r_qGoesOn_247, h 3 (by decide), bnd_some, i01]
    by_cases c3 : rtk y = 3
    · rw [if_pos c3, if_neg (by decide), e]
    rw [if_neg c3, if_pos rfl, h 4 (by decide), bnd_some, i01]
    by_cases c4 : rtk y = 4
    · rw [if_pos c4, if_neg (by decide), e]
    rw [if_neg c4, if_pos rfl, h 1 (by decide), bnd_some, i01]
    by_cases c1 : rtk y = 1
    · rw [if_pos c1, if_neg (by decide), e]
    rw [if_neg c1, if_pos rfl, h 2 (by decide), bnd_some, i01, if_pos (show rtk y = 2 by omega), if_neg (by decide), e]
/-- the end of a sum -/
theorem sums_53 {W1 : List Int} (hb : b = (W1.length : Int)) {v1 : Int} (hv : rg v1) : ∀ (Pm : List Int) {f : Nat} {m : xm} {L : List Int}, QS m B n q s (Pm.map rtk ++ W1) L o b → (∀ y ∈ Pm, isSO y) → Pm.length + W1.length + L.length < 1690 → Pm.length < f → ∃ m', r_qSums_53 f v1 m = some (0, m') ∧ QS m' B n q s W1 (L ++ Pm) o v1 ∧ FQ m m'
  | [], f, m, L, Q, _, hl, hf => by
    obtain ⟨f, rfl⟩ : ∃ f', f = f' + 1 := ⟨f - 1, by omega⟩
    rw [List.map_nil, List.nil_append] at Q
    rw [r_qSums_53, if_pos Q.1.2.2.1, Q.2.1.1, Q.2.2.2.2.1, if_pos (by omega)]
    unfold r_qSums_78
    rw [stf_eq]
    exact ⟨_, rfl, by rw [List.append_nil]; exact bas_S Q hv, FQ_st (by decide)⟩
  | y :: Pm, f, m, L, Q, hy, hl, hf => by
    rw [List.length_cons] at hf hl
    obtain ⟨f, rfl⟩ : ∃ f', f = f' + 1 := ⟨f - 1, by omega⟩
    have hS := hy y List.mem_cons_self
    unfold isSO at hS
    rw [List.map_cons, List.cons_append] at Q
    have le : (Pm.map rtk ++ W1).length = Pm.length + W1.length := by rw [List.length_append, List.length_map]
    obtain ⟨m1, a1, a2, a3⟩ := r_qDrops_S Q (by omega) (by omega) (by omega)
    obtain ⟨m2, b1, b2, b3⟩ := sums_53 hb hv Pm (f := f) a2 (fun z hz => hy z (List.mem_cons_of_mem _ hz)) (by rw [List.length_append, List.length_cons, List.length_nil]; omega) (by omega)
    refine ⟨m2, ?_, by rw [List.append_assoc] at b2; exact b2, FQ_trans a3 b3⟩
    have e := Q.2.1.1
    rw [List.length_cons, le] at e
    rw [r_qSums_53, if_pos Q.1.2.2.1, e, Q.2.2.2.2.1, if_neg (by omega), a1, bnd_some, b1]
end RDR
