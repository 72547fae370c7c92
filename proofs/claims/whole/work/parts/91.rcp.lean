/-! the reference reads sums as they are told -/
def en (n : Int) (f : Nat) (s : Int × Int) : Prop := (n - s.1).toNat + 2 < f
def KOK (P : xr → Prop) (B : Int → Int) (n : Int) (q : Bool) (v1 b : Int) (m0 : xm) (s : Int × Int) (W L : List Int) (o : Int) : Prop := ∀ m f g, QS m B n q s W L o b → FQ m0 m → en n f s → en n g s → P (GO f g v1 m)
def KBD (P : xr → Prop) (v1 : Int) (m0 : xm) (k p : Int) : Prop := ∀ m, RBQ m k p → FQ m0 m → P (some (0, st m 78 88 v1))
def R5 (P : xr → Prop) (B : Int → Int) (n : Int) (q : Bool) (v1 b : Int) (m0 : xm) (f : Nat) : Prop := ∀ (o : Int) (s : Int × Int) (W1 U L : List Int) (m : xm) (f1 g : Nat), QS m B n q s (U.map rtk ++ W1) L o b → FQ m0 m → ((U.length + W1.length + L.length : Nat) : Int) ≤ s.1 → (∀ y ∈ U, isOF y) → tpo W1 (fun x => x < 60) → b ≤ (W1.length : Int) → (U.length : Int) ≤ o → o ≤ 6 → nee 5 o < (f : Int) → en n f1 s → en n g s →
  (∀ s' C, sp B n q f 5 o 0 s = .inr (s', C) → KOK P B n q v1 b m0 s' W1 (L ++ C ++ U) (o - U.length)) → (∀ k p, sp B n q f 5 o 0 s = .inl (k, p) → KBD P v1 m0 k p) → P (PT f1 g v1 m)
def R7 (P : xr → Prop) (B : Int → Int) (n : Int) (q : Bool) (v1 b : Int) (m0 : xm) (f : Nat) : Prop := ∀ (o t : Int) (s : Int × Int) (W1 U L : List Int) (m : xm) (f1 g : Nat), QS m B n q s (U.map rtk ++ W1) L o b → FQ m0 m → ((U.length + W1.length + L.length : Nat) : Int) ≤ s.1 → (∀ y ∈ U, isOF y) → tpo W1 (fun x => x < 60) → b ≤ (W1.length : Int) → (U.length : Int) ≤ o → o ≤ 6 → nee 7 o < (f : Int) → en n f1 s → en n g s → (t = 10011 ∧ isW B n (lit 13) s = true ∨ t = 10012 ∧ q = true ∧ isW B n (lit 14) s = true) →
  (∀ s' C, sp B n q f 7 o t s = .inr (s', C) → KOK P B n q v1 b m0 s' W1 (L ++ C ++ U) (o - U.length)) → (∀ k p, sp B n q f 7 o t s = .inl (k, p) → KBD P v1 m0 k p) → P (PT f1 g v1 m)
def R6 (P : xr → Prop) (B : Int → Int) (n : Int) (q : Bool) (v1 b : Int) (m0 : xm) (f : Nat) : Prop := ∀ (o t : Int) (s : Int × Int) (W1 U L : List Int) (m : xm) (f1 g : Nat), QS m B n q s (U.map rtk ++ W1) L o b → FQ m0 m → ((U.length + W1.length + L.length : Nat) : Int) + 1 ≤ s.1 → (∀ y ∈ U, isOF y) → tpo W1 (fun x => x < 60) → b ≤ (W1.length : Int) → (U.length : Int) ≤ o → o ≤ 6 → nee 6 o < (f : Int) → en n f1 s → en n g s → (t = 10034 ∨ t = 10035) →
  (∀ s' C, sp B n q f 6 o t s = .inr (s', C) → KOK P B n q v1 b m0 s' W1 (L ++ C ++ U) (o - U.length)) → (∀ k p, sp B n q f 6 o t s = .inl (k, p) → KBD P v1 m0 k p) → P (bnd (r_qPartTold_100 (fun v1 m => r_qPartTold_2 f1 v1 m) 1 (10035 - t) m) (pk g v1))
def R4 (P : xr → Prop) (B : Int → Int) (n : Int) (q : Bool) (v1 b : Int) (m0 : xm) (f : Nat) : Prop := ∀ (o : Int) (s : Int × Int) (W L : List Int) (m : xm) (f1 g : Nat), QS m B n q s W L o b → FQ m0 m → ((W.length + L.length : Nat) : Int) ≤ s.1 → tpo W (fun x => x ≠ 3 ∧ x ≠ 4 ∧ x < 60) → b ≤ (W.length : Int) → 0 ≤ o → o ≤ 6 → nee 4 o < (f : Int) → en n f1 s → en n g s →
  (∀ s' C Pm L2, sp B n q f 4 o 0 s = .inr (s', C) → L2 ++ Pm = L ++ C → (∀ y ∈ Pm, isPO y) → tkG B n 42 10032 47 10033 s' = none → KOK P B n q v1 b m0 s' (Pm.map rtk ++ W) L2 o) → (∀ k p, sp B n q f 4 o 0 s = .inl (k, p) → KBD P v1 m0 k p) → P (PT f1 g v1 m)
def R3 (P : xr → Prop) (B : Int → Int) (n : Int) (q : Bool) (v1 b : Int) (m0 : xm) (f : Nat) : Prop := ∀ (o : Int) (s : Int × Int) (W L : List Int) (m : xm) (f1 g : Nat), QS m B n q s W L o b → FQ m0 m → ((W.length + L.length : Nat) : Int) ≤ s.1 → tpo W (fun x => x ≠ 1 ∧ x ≠ 2 ∧ x ≠ 3 ∧ x ≠ 4 ∧ x < 60) → b ≤ (W.length : Int) → 0 ≤ o → o ≤ 6 → nee 3 o < (f : Int) → en n f1 s → en n g s →
  (∀ s' C Pm L2, sp B n q f 3 o 0 s = .inr (s', C) → L2 ++ Pm = L ++ C → (∀ y ∈ Pm, isSO y) → tkG B n 42 10032 47 10033 s' = none → tkG B n 43 10030 45 10031 s' = none → KOK P B n q v1 b m0 s' (Pm.map rtk ++ W) L2 o) → (∀ k p, sp B n q f 3 o 0 s = .inl (k, p) → KBD P v1 m0 k p) → P (PT f1 g v1 m)
section RCP
variable {P : xr → Prop} {B : Int → Int} {n : Int} {q : Bool} {v1 b : Int} {m0 : xm}
theorem sbd_ir {s : Int × Int} {C : List Int} {f : (Int × Int) → List Int → PRS} : sbd (.inr (s, C)) f = f s C := rfl
theorem sbd_il {e : Int × Int} {f : (Int × Int) → List Int → PRS} : sbd (.inl e) f = .inl e := rfl
theorem lenEq {A A' C C' : List Int} (h : A ++ A' = C ++ C') : A.length + A'.length = C.length + C'.length := by
  have := congrArg List.length h
  rw [List.length_append, List.length_append] at this
  exact this
theorem loop4 {f : Nat} (h5 : R5 P B n q v1 b m0 f) {o : Int} (h0 : 0 ≤ o) (h6 : o ≤ 6) (hf : nee 5 o < (f : Int)) {W L : List Int} (htp : tpo W (fun x => x ≠ 3 ∧ x ≠ 4 ∧ x < 60)) (hb : b ≤ (W.length : Int)) : ∀ (lg : Nat) {s : Int × Int} {C Pm L2 : List Int} {m : xm} {f2 g : Nat}, QS m B n q s (Pm.map rtk ++ W) L2 o b → FQ m0 m → L2 ++ Pm = L ++ C → (∀ y ∈ Pm, isPO y) → ((Pm.length + W.length + L2.length : Nat) : Int) ≤ s.1 → (n - s.1).toNat < lg → en n f2 s → en n g s →
    (∀ s' C' Pm' L2', lp B n (tkG B n 42 10032 47 10033) (sp B n q f 5 o 0) lg s C = .inr (s', C') → L2' ++ Pm' = L ++ C' → (∀ y ∈ Pm', isPO y) → tkG B n 42 10032 47 10033 s' = none → KOK P B n q v1 b m0 s' (Pm'.map rtk ++ W) L2' o) →
    (∀ k p, lp B n (tkG B n 42 10032 47 10033) (sp B n q f 5 o 0) lg s C = .inl (k, p) → KBD P v1 m0 k p) → P (GO f2 g v1 m)
  | 0, _, _, _, _, _, _, _, _, _, _, _, _, hl, _, _, _, _ => by omega
  | lg + 1, s, C, Pm, L2, m, f2, g, Q, F, he, hp, hz, hl, e2, eg, ok, bad => by
    have okt := Q.1.2.1
    have n16 := Q.1.1.2.2.1
    have o1 := okt.2.1
    cases ht : tkG B n 42 10032 47 10033 s with
    | none => exact ok s C Pm L2 (by unfold lp; rw [ht]; rfl) he hp ht m f2 g Q F e2 eg
    | some t =>
      unfold en at e2 eg
      obtain ⟨f2, rfl⟩ : ∃ f', f2 = f' + 1 := ⟨f2 - 1, by omega⟩
      obtain ⟨g, rfl⟩ : ∃ f', g = f' + 1 := ⟨g - 1, by omega⟩
      have gt := nx_gt okt (tkG_t ht).1
      have okn := okT_nx (B := B) okt
      have on1 := okn.2.1
      obtain ⟨m1, a1, a2, a3⟩ := GO_times (v1 := v1) (f := f2) (g := g) Q (fun x r z => ⟨(htp x r z).1, (htp x r z).2.1⟩) hp (by omega) ht
      have tp : isPO t := by
        rcases (tkG_t ht).2 with rfl | rfl
        · exact Or.inl rfl
        · exact Or.inr rfl
      have rt := rtk_PO tp
      rw [a1]
      refine h5 o (nx B n s) (rtk t :: W) [] (L2 ++ Pm) m1 xLF g a2 (FQ_trans F a3) (by rw [List.length_nil, List.length_cons, List.length_append]; omega) (fun y hy => by cases hy) (fun x r z => by cases z; omega) (by rw [List.length_cons]; omega) (by rw [List.length_nil]; omega) h6 hf (by unfold en; rw [xLF_eq]; omega) (by unfold en; omega) ?_ ?_
      · intro s2 C2 e3 m2 f3 g3 Q3 F3 ef eg3
        obtain ⟨k1, k2, k3, k4⟩ := sp_gd f 5 okn h0 h6 (tA (by decide) (by decide)) s2 C2 e3
        rw [List.append_nil, List.length_nil, show o - ((0 : Nat) : Int) = o by omega] at Q3
        have el : lp B n (tkG B n 42 10032 47 10033) (sp B n q f 5 o 0) (lg + 1) s C = lp B n (tkG B n 42 10032 47 10033) (sp B n q f 5 o 0) lg s2 (C ++ (C2 ++ [t])) := by
          conv => lhs; unfold lp
          rw [ht]
          dsimp only [obd]
          rw [e3]
          rfl
        rw [el] at ok bad
        refine loop4 h5 h0 h6 hf htp hb lg (s := s2) (C := C ++ (C2 ++ [t])) (Pm := [t]) (L2 := L2 ++ Pm ++ C2) (m := m2) Q3 F3 (by rw [he]; simp only [List.append_assoc]) (fun y hy => by rw [List.mem_singleton.mp hy]; exact tp) ?_ (by omega) ef eg3 ok bad
        rw [List.length_cons, List.length_nil, List.length_append, List.length_append]
        omega
      · intro k p e3
        refine bad k p ?_
        unfold lp
        rw [ht]
        dsimp only [obd]
        rw [e3]
        rfl
theorem R4_of {f : Nat} (h5 : R5 P B n q v1 b m0 f) : R4 P B n q v1 b m0 (f + 1) := by
  intro o s W L m f1 g Q F hz htp hb h0 h6 hf e1 eg ok bad
  rw [nee4] at hf
  have okt := Q.1.2.1
  have n16 := Q.1.1.2.2.1
  unfold sp at ok bad
  refine h5 o s W [] L m f1 g Q F (by rw [List.length_nil]; omega) (fun y hy => by cases hy) (fun x r z => (htp x r z).2.2) hb (by rw [List.length_nil]; omega) h6 (by rw [nee5]; omega) e1 eg ?_ ?_
  · intro s2 C2 e3 m2 f3 g3 Q3 F3 ef eg3
    obtain ⟨k1, k2, k3, k4⟩ := sp_gd f 5 okt h0 h6 (tA (by decide) (by decide)) s2 C2 e3
    have k5 := k1.2.1
    rw [List.append_nil, List.length_nil, show o - ((0 : Nat) : Int) = o by omega] at Q3
    rw [e3] at ok bad
    rw [sbd_ir] at ok bad
    refine loop4 h5 h0 h6 (by rw [nee5]; omega) htp hb 1700 (s := s2) (C := C2) (Pm := []) (L2 := L ++ C2) (m := m2) Q3 F3 (by rw [List.append_nil]) (fun y hy => by cases hy) ?_ (by have := k1.1; omega) ef eg3 ok bad
    rw [List.length_nil, List.length_append]
    omega
  · intro k p e3
    rw [e3, sbd_il] at bad
    exact bad k p rfl
theorem loop3 {f : Nat} (h4 : R4 P B n q v1 b m0 f) {o : Int} (h0 : 0 ≤ o) (h6 : o ≤ 6) (hf : nee 4 o < (f : Int)) {W L : List Int} (htp : tpo W (fun x => x ≠ 1 ∧ x ≠ 2 ∧ x ≠ 3 ∧ x ≠ 4 ∧ x < 60)) (hb : b ≤ (W.length : Int)) : ∀ (lg : Nat) {s : Int × Int} {C Pm L2 : List Int} {m : xm} {f2 g : Nat}, QS m B n q s (Pm.map rtk ++ W) L2 o b → FQ m0 m → L2 ++ Pm = L ++ C → (∀ y ∈ Pm, isSO y) → tkG B n 42 10032 47 10033 s = none → ((Pm.length + W.length + L2.length : Nat) : Int) ≤ s.1 → (n - s.1).toNat < lg → en n f2 s → en n g s →
    (∀ s' C' Pm' L2', lp B n (tkG B n 43 10030 45 10031) (sp B n q f 4 o 0) lg s C = .inr (s', C') → L2' ++ Pm' = L ++ C' → (∀ y ∈ Pm', isSO y) → tkG B n 42 10032 47 10033 s' = none → tkG B n 43 10030 45 10031 s' = none → KOK P B n q v1 b m0 s' (Pm'.map rtk ++ W) L2' o) →
    (∀ k p, lp B n (tkG B n 43 10030 45 10031) (sp B n q f 4 o 0) lg s C = .inl (k, p) → KBD P v1 m0 k p) → P (GO f2 g v1 m)
  | 0, _, _, _, _, _, _, _, _, _, _, _, _, _, hl, _, _, _, _ => by omega
  | lg + 1, s, C, Pm, L2, m, f2, g, Q, F, he, hp, hno, hz, hl, e2, eg, ok, bad => by
    have okt := Q.1.2.1
    have n16 := Q.1.1.2.2.1
    have o1 := okt.2.1
    cases ht : tkG B n 43 10030 45 10031 s with
    | none => exact ok s C Pm L2 (by unfold lp; rw [ht]; rfl) he hp hno ht m f2 g Q F e2 eg
    | some t =>
      unfold en at e2 eg
      obtain ⟨f2, rfl⟩ : ∃ f', f2 = f' + 1 := ⟨f2 - 1, by omega⟩
      obtain ⟨g, rfl⟩ : ∃ f', g = f' + 1 := ⟨g - 1, by omega⟩
      have gt := nx_gt okt (tkG_t ht).1
      have okn := okT_nx (B := B) okt
      have on1 := okn.2.1
      obtain ⟨m1, a1, a2, a3⟩ := GO_plus (v1 := v1) (f := f2) (g := g) Q (fun x r z => ⟨(htp x r z).1, (htp x r z).2.1, (htp x r z).2.2.1, (htp x r z).2.2.2.1⟩) hp (by omega) ht
      have tp : t = 10030 ∨ t = 10031 := (tkG_t ht).2
      have rt : rtk t = 1 ∨ rtk t = 2 := by
        rcases tp with rfl | rfl
        · exact Or.inl rfl
        · exact Or.inr rfl
      rw [a1]
      refine h4 o (nx B n s) (rtk t :: W) (L2 ++ Pm) m1 xLF g a2 (FQ_trans F a3) (by rw [List.length_cons, List.length_append]; omega) (fun x r z => by cases z; omega) (by rw [List.length_cons]; omega) h0 h6 hf (by unfold en; rw [xLF_eq]; omega) (by unfold en; omega) ?_ ?_
      · intro s2 C2 Pm2 L22 e3 he2 hp2 hno2 m2 f3 g3 Q3 F3 ef eg3
        obtain ⟨k1, k2, k3, k4⟩ := sp_gd f 4 okn h0 h6 (tA (by decide) (by decide)) s2 C2 e3
        have ll := lenEq he2
        rw [List.length_append] at ll
        have el : lp B n (tkG B n 43 10030 45 10031) (sp B n q f 4 o 0) (lg + 1) s C = lp B n (tkG B n 43 10030 45 10031) (sp B n q f 4 o 0) lg s2 (C ++ (C2 ++ [t])) := by
          conv => lhs; unfold lp
          rw [ht]
          dsimp only [obd]
          rw [e3]
          rfl
        rw [el] at ok bad
        refine loop3 h4 h0 h6 hf htp hb lg (s := s2) (C := C ++ (C2 ++ [t])) (Pm := Pm2 ++ [t]) (L2 := L22) (m := m2) ?_ F3 ?_ ?_ hno2 ?_ (by omega) ef eg3 ok bad
        · rw [List.map_append, List.append_assoc]
          exact Q3
        · rw [← List.append_assoc, he2, he]
          simp only [List.append_assoc]
        · intro y hy
          rcases List.mem_append.mp hy with z | z
          · exact PO_SO (hp2 y z)
          · rw [List.mem_singleton.mp z]
            unfold isSO
            omega
        · rw [List.length_append, List.length_cons, List.length_nil]
          omega
      · intro k p e3
        refine bad k p ?_
        unfold lp
        rw [ht]
        dsimp only [obd]
        rw [e3]
        rfl
theorem R3_of {f : Nat} (h4 : R4 P B n q v1 b m0 f) : R3 P B n q v1 b m0 (f + 1) := by
  intro o s W L m f1 g Q F hz htp hb h0 h6 hf e1 eg ok bad
  rw [nee3] at hf
  have okt := Q.1.2.1
  have n16 := Q.1.1.2.2.1
  unfold sp at ok bad
  refine h4 o s W L m f1 g Q F hz (fun x r z => ⟨(htp x r z).2.2.1, (htp x r z).2.2.2.1, (htp x r z).2.2.2.2⟩) hb h0 h6 (by rw [nee4]; omega) e1 eg ?_ ?_
  · intro s2 C2 Pm2 L22 e3 he2 hp2 hno2 m2 f3 g3 Q3 F3 ef eg3
    obtain ⟨k1, k2, k3, k4⟩ := sp_gd f 4 okt h0 h6 (tA (by decide) (by decide)) s2 C2 e3
    have k5 := k1.2.1
    have ll := lenEq he2
    rw [e3] at ok bad
    rw [sbd_ir] at ok bad
    refine loop3 h4 h0 h6 (by rw [nee4]; omega) htp hb 1700 (s := s2) (C := C2) (Pm := Pm2) (L2 := L22) (m := m2) Q3 F3 he2 (fun y hy => PO_SO (hp2 y hy)) hno2 ?_ (by have := k1.1; omega) ef eg3 ok bad
    omega
  · intro k p e3
    rw [e3, sbd_il] at bad
    exact bad k p rfl
theorem R7_of {f : Nat} (h5 : R5 P B n q v1 b m0 f) : R7 P B n q v1 b m0 (f + 1) := by
  intro o t s W1 U L m f1 g Q F hz hu htp hb h0 h6 hf e1 eg ht ok bad
  rw [nee7] at hf
  have okt := Q.1.2.1
  have n16 := Q.1.1.2.2.1
  have o1 := okt.2.1
  have kd : tkd B n s ≠ 0 := by
    rcases ht with ⟨-, c⟩ | ⟨-, -, c⟩
    · rw [isW_kd c]; decide
    · rw [isW_kd c]; decide
  have gt := nx_gt okt kd
  have okn := okT_nx (B := B) okt
  have on1 := okn.2.1
  have lw : (U.map rtk ++ W1).length = U.length + W1.length := by rw [List.length_append, List.length_map]
  unfold en at e1 eg
  obtain ⟨f1, rfl⟩ : ∃ f', f1 = f' + 2 := ⟨f1 - 2, by omega⟩
  obtain ⟨g, rfl⟩ : ∃ f', g = f' + 1 := ⟨g - 1, by omega⟩
  unfold sp opo at ok bad
  by_cases c : o < 6
  · rw [if_pos c] at ok bad
    dsimp only at ok bad
    obtain ⟨m1, a1, a2, a3⟩ := (PT_of (v1 := v1) (f := f1 + 1) (g := g + 1) Q (by omega) (by omega) (by omega) h6 ht).1 c
    rw [show f1 + 2 = f1 + 1 + 1 from rfl, a1]
    refine h5 (o + 1) (nx B n s) W1 (t :: U) L m1 (f1 + 1) (g + 1) a2 (FQ_trans F a3) (by rw [List.length_cons]; omega) ?_ htp hb (by rw [List.length_cons]; omega) (by omega) (by rw [nee5]; omega) (by unfold en; omega) (by unfold en; omega) ?_ ?_
    · intro y hy
      rcases List.mem_cons.mp hy with rfl | z
      · rcases ht with ⟨e, -⟩ | ⟨e, -⟩
        · exact Or.inl e
        · exact Or.inr e
      · exact hu y z
    · intro s2 C2 e3
      rw [e3] at ok
      have := ok s2 (C2 ++ [t]) rfl
      rw [List.length_cons, show o + 1 - ((U.length + 1 : Nat) : Int) = o - (U.length : Int) by omega]
      rw [← List.append_assoc, List.append_assoc (L ++ C2)] at this
      exact this
    · intro k p e3
      rw [e3] at bad
      exact bad k p rfl
  · rw [if_neg c] at bad
    obtain ⟨m1, a1, a2, a3⟩ := (PT_of (v1 := v1) (f := f1) (g := g) Q (by omega) (by omega) (by omega) h6 ht).2 c
    rw [a1]
    exact bad _ _ rfl m1 a2 (FQ_trans F a3)
theorem R6_of {f : Nat} (hb0 : 0 ≤ b) (h3 : R3 P B n q v1 b m0 f) : R6 P B n q v1 b m0 (f + 1) := by
  intro o t s W1 U L m f1 g Q F hz hu htp hb h0 h6 hf e1 eg ht ok bad
  rw [nee6] at hf
  have okt := Q.1.2.1
  have n16 := Q.1.1.2.2.1
  have o1 := okt.2.1
  have okn := okT_nx (B := B) okt
  have on1 := okn.2.1
  have lw : (U.map rtk ++ W1).length = U.length + W1.length := by rw [List.length_append, List.length_map]
  unfold en at e1 eg
  obtain ⟨f1, rfl⟩ : ∃ f', f1 = f' + 1 := ⟨f1 - 1, by omega⟩
  obtain ⟨g, rfl⟩ : ∃ f', g = f' + 1 := ⟨g - 1, by omega⟩
  unfold sp at ok bad
  by_cases c40 : isG B n 40 s = true
  · rw [if_pos c40] at ok bad
    have gt := isG_gt okt c40
    unfold opo at ok bad
    by_cases c : o < 6
    · rw [if_pos c] at ok bad
      dsimp only at ok bad
      obtain ⟨m1, a1, a2, a3⟩ := (P100_open (v1 := v1) (f := f1 + 1) (g := g + 1) (v4 := 10035 - t) Q (by omega) (by omega) (by omega) h6 (by omega) c40).1 c
      rw [a1]
      refine h3 (o + 1) (nx B n s) ((22 - (10035 - t)) :: (U.map rtk ++ W1)) L m1 (f1 + 1) (g + 1) a2 (FQ_trans F a3) (by rw [List.length_cons, lw]; omega) (fun x r z => by cases z; omega) (by rw [List.length_cons, lw]; omega) (by omega) (by omega) (by rw [nee3]; omega) (by unfold en; omega) (by unfold en; omega) ?_ ?_
      · intro s1 C1 Pm1 L1 x1 he1 hp1 hn1 hn2 m2 f2 g2 Q2 F2 ef2 eg2
        rw [x1] at ok bad
        obtain ⟨k1, k2, k3, k4⟩ := sp_gd f 3 okn (show 0 ≤ o + 1 by omega) (by omega) (tA (by decide) (by decide)) s1 C1 x1
        have l1 := lenEq he1
        have k5 := k1.2.1
        dsimp only [sbd] at ok bad
        unfold en at ef2 eg2
        obtain ⟨f2, rfl⟩ : ∃ f', f2 = f' + 1 := ⟨f2 - 1, by omega⟩
        obtain ⟨g2, rfl⟩ : ∃ f', g2 = f' + 1 := ⟨g2 - 1, by omega⟩
        by_cases c44 : isG B n 44 s1 = true
        · unfold ndG at ok bad
          rw [if_pos c44] at ok bad
          dsimp only at ok bad
          have gt2 := isG_gt k1 c44
          have okn2 := okT_nx (B := B) k1
          have on2 := okn2.2.1
          obtain ⟨m3, b1, b2, b3⟩ := GO_comma (v1 := v1) (f := f2) (g := g2) Q2 (by omega) (by rw [lw]; omega) hp1 (by rw [List.length_cons, lw]; omega) c44
          rw [b1]
          refine h3 (o + 1) (nx B n s1) ((22 - (10035 - t) + 2) :: (U.map rtk ++ W1)) (L1 ++ Pm1) m3 xLF g2 b2 (FQ_trans F2 b3) (by rw [List.length_cons, lw, List.length_append]; omega) (fun x r z => by cases z; omega) (by rw [List.length_cons, lw]; omega) (by omega) (by omega) (by rw [nee3]; omega) (by unfold en; rw [xLF_eq]; omega) (by unfold en; omega) ?_ ?_
          · intro s2 C2 Pm2 L2 x2 he2 hp2 hn3 hn4 m4 f4 g4 Q4 F4 ef4 eg4
            rw [x2] at ok bad
            obtain ⟨y1, y2, y3, y4⟩ := sp_gd f 3 okn2 (show 0 ≤ o + 1 by omega) (by omega) (tA (by decide) (by decide)) s2 C2 x2
            have y5 := y1.2.1
            have l2 := lenEq he2
            rw [List.length_append] at l2
            dsimp only [sbd] at ok bad
            unfold en at ef4 eg4
            obtain ⟨f4, rfl⟩ : ∃ f', f4 = f' + 1 := ⟨f4 - 1, by omega⟩
            obtain ⟨g4, rfl⟩ : ∃ f', g4 = f' + 1 := ⟨g4 - 1, by omega⟩
            by_cases c41 : isG B n 41 s2 = true
            · rw [if_pos c41] at ok
              have gt3 := isG_gt y1 c41
              have on3 := (okT_nx (B := B) y1).2.1
              have hxt : 22 - (10035 - t) + 2 = 20 ∧ [t] = [] ∨ 22 - (10035 - t) + 2 = 23 ∧ [t] = [10034] ∨ 22 - (10035 - t) + 2 = 24 ∧ [t] = [10035] := by
                rcases ht with rfl | rfl
                · exact Or.inr (Or.inl ⟨rfl, rfl⟩)
                · exact Or.inr (Or.inr ⟨rfl, rfl⟩)
              obtain ⟨m5, d1, d2, d3⟩ := GO_close (v1 := v1) (f := f4) (g := g4 + 1) (X := [t]) Q4 hxt hb0 hb htp hp2 hu (by omega) (by omega) (by omega) c41
              rw [d1]
              have e : L2 ++ Pm2 ++ [t] ++ U = L ++ (C1 ++ (C2 ++ [t])) ++ U := by
                rw [he2, he1]
                simp only [List.append_assoc]
              rw [e, show o + 1 - 1 - (U.length : Int) = o - U.length by omega] at d2
              exact ok _ _ rfl m5 f4 (g4 + 1) d2 (FQ_trans F4 d3) (by unfold en; omega) (by unfold en; omega)
            · rw [if_neg c41] at bad
              obtain ⟨m5, d1, d2, d3⟩ := GO_fail (v1 := v1) (f := f4) (g := g4) Q4 (by unfold isB; omega) (by rw [lw]; omega) hp2 (by rw [List.length_cons, lw]; omega) hn3 hn4 (Or.inl ⟨by omega, by simpa using c41⟩)
              rw [d1]
              exact bad _ _ rfl m5 d2 (FQ_trans F4 d3)
          · intro k p x2
            rw [x2] at bad
            exact bad k p rfl
        · unfold ndG at bad
          rw [if_neg c44] at bad
          obtain ⟨m5, d1, d2, d3⟩ := GO_fail (v1 := v1) (f := f2) (g := g2) Q2 (by unfold isB; omega) (by rw [lw]; omega) hp1 (by rw [List.length_cons, lw]; omega) hn1 hn2 (Or.inr ⟨by omega, by simpa using c44⟩)
          rw [d1]
          exact bad _ _ rfl m5 d2 (FQ_trans F2 d3)
      · intro k p x1
        rw [x1] at bad
        exact bad k p rfl
    · rw [if_neg c] at bad
      obtain ⟨m1, a1, a2, a3⟩ := (P100_open (v1 := v1) (f := f1) (g := g) (v4 := 10035 - t) Q (by omega) (by omega) (by omega) h6 (by omega) c40).2 c
      rw [a1]
      exact bad _ _ rfl m1 a2 (FQ_trans F a3)
  · rw [if_neg c40] at bad
    obtain ⟨m1, a1, a2, a3⟩ := P100_fail (v1 := v1) (f := f1) (g := g) (v4 := 10035 - t) Q (by omega) (by simpa using c40)
    rw [a1]
    exact bad _ _ rfl m1 a2 (FQ_trans F a3)
theorem R5_of {f : Nat} (hb0 : 0 ≤ b) (h3 : R3 P B n q v1 b m0 f) (h6 : R6 P B n q v1 b m0 f) (h7 : R7 P B n q v1 b m0 f) : R5 P B n q v1 b m0 (f + 1) := by
  intro o s W1 U L m f1 g Q F hz hu htp hb h0 ho6 hf e1 eg ok bad
  rw [nee5] at hf
  have okt := Q.1.2.1
  have n16 := Q.1.1.2.2.1
  have o1 := okt.2.1
  have okn := okT_nx (B := B) okt
  have on1 := okn.2.1
  have lw : (U.map rtk ++ W1).length = U.length + W1.length := by rw [List.length_append, List.length_map]
  have e1' := e1
  have eg' := eg
  unfold en at e1 eg
  obtain ⟨f1, rfl⟩ : ∃ f', f1 = f' + 2 := ⟨f1 - 2, by omega⟩
  obtain ⟨g, rfl⟩ : ∃ f', g = f' + 1 := ⟨g - 1, by omega⟩
  unfold sp at ok bad
  by_cases c2 : tkd B n s = 2
  · rw [if_pos c2] at ok bad
    have l0 : lea B n q s = none := by
      cases el : lea B n q s with
      | none => rfl
      | some t =>
        have z := (lea_t el).1
        rw [c2] at z
        exact absurd z (by decide)
    have gt := nx_gt okt (show tkd B n s ≠ 0 by rw [c2]; decide)
    cases eN : sNum B n 0 9999 s with
    | inl x =>
      obtain ⟨k, p⟩ := x
      obtain ⟨m1, a1, a2, a3⟩ := (PT_leaf (v1 := v1) (f := f1) (g := g) Q hb0 hb htp hu (by omega) h0 ho6 (isG_not (by rw [c2]; decide)) (isW_not (by rw [c2]; decide)) (isW_not (by rw [c2]; decide)) (wof_no (by rw [c2]; decide))).2 k p l0 eN
      rw [a1]
      rw [eN] at bad
      exact bad k p rfl m1 a2 (FQ_trans F a3)
    | inr v =>
      obtain ⟨m1, a1, a2, a3⟩ := (PT_leaf (v1 := v1) (f := f1) (g := g + 1) Q hb0 hb htp hu (by omega) h0 ho6 (isG_not (by rw [c2]; decide)) (isW_not (by rw [c2]; decide)) (isW_not (by rw [c2]; decide)) (wof_no (by rw [c2]; decide))).1 v (Or.inr ⟨l0, eN⟩)
      rw [a1]
      rw [eN] at ok
      exact ok (nx B n s) [v] rfl m1 xLF (g + 1) a2 (FQ_trans F a3) (by unfold en; rw [xLF_eq]; omega) (by unfold en; omega)
  rw [if_neg c2] at ok bad
  by_cases c40 : isG B n 40 s = true
  · rw [if_pos c40] at ok bad
    have gt := isG_gt okt c40
    unfold opo at ok bad
    by_cases c : o < 6
    · rw [if_pos c] at ok bad
      dsimp only at ok bad
      obtain ⟨m1, a1, a2, a3⟩ := (PT_open (v1 := v1) (f := f1 + 1) (g := g + 1) Q (by omega) (by omega) (by omega) ho6 c40).1 c
      rw [show f1 + 2 = f1 + 1 + 1 from rfl, a1]
      refine h3 (o + 1) (nx B n s) (20 :: (U.map rtk ++ W1)) L m1 (f1 + 1) (g + 1) a2 (FQ_trans F a3) (by rw [List.length_cons, lw]; omega) (fun x r z => by cases z; decide) (by rw [List.length_cons, lw]; omega) (by omega) (by omega) (by rw [nee3]; omega) (by unfold en; omega) (by unfold en; omega) ?_ ?_
      · intro s1 C1 Pm1 L1 x1 he1 hp1 hn1 hn2 m2 f2 g2 Q2 F2 ef2 eg2
        rw [x1] at ok bad
        obtain ⟨k1, k2, k3, k4⟩ := sp_gd f 3 okn (show 0 ≤ o + 1 by omega) (by omega) (tA (by decide) (by decide)) s1 C1 x1
        have l1 := lenEq he1
        have k5 := k1.2.1
        dsimp only [sbd] at ok bad
        unfold en at ef2 eg2
        obtain ⟨f2, rfl⟩ : ∃ f', f2 = f' + 1 := ⟨f2 - 1, by omega⟩
        obtain ⟨g2, rfl⟩ : ∃ f', g2 = f' + 1 := ⟨g2 - 1, by omega⟩
        unfold ndG at ok bad
        by_cases c41 : isG B n 41 s1 = true
        · rw [if_pos c41] at ok
          have gt3 := isG_gt k1 c41
          have on3 := (okT_nx (B := B) k1).2.1
          obtain ⟨m5, d1, d2, d3⟩ := GO_close (v1 := v1) (f := f2) (g := g2 + 1) (X := []) Q2 (Or.inl ⟨rfl, rfl⟩) hb0 hb htp hp1 hu (by omega) (by omega) (by omega) c41
          rw [d1]
          rw [List.append_nil, he1, show o + 1 - 1 - (U.length : Int) = o - U.length by omega] at d2
          exact ok _ _ rfl m5 f2 (g2 + 1) d2 (FQ_trans F2 d3) (by unfold en; omega) (by unfold en; omega)
        · rw [if_neg c41] at bad
          obtain ⟨m5, d1, d2, d3⟩ := GO_fail (v1 := v1) (f := f2) (g := g2) Q2 (by unfold isB; decide) (by rw [lw]; omega) hp1 (by rw [List.length_cons, lw]; omega) hn1 hn2 (Or.inl ⟨Or.inl rfl, by simpa using c41⟩)
          rw [d1]
          exact bad _ _ rfl m5 d2 (FQ_trans F2 d3)
      · intro k p x1
        rw [x1] at bad
        exact bad k p rfl
    · rw [if_neg c] at bad
      obtain ⟨m1, a1, a2, a3⟩ := (PT_open (v1 := v1) (f := f1) (g := g) Q (by omega) (by omega) (by omega) ho6 c40).2 c
      rw [a1]
      exact bad _ _ rfl m1 a2 (FQ_trans F a3)
  rw [if_neg c40] at ok bad
  by_cases c11 : isW B n (lit 11) s = true
  · rw [if_pos c11] at ok bad
    have gt := isW_gt okt c11
    obtain ⟨m1, a1, a2, a3⟩ := PT_pair (v1 := v1) (f := f1 + 1) (g := g + 1) Q (Or.inl ⟨rfl, c11⟩)
    rw [show f1 + 2 = f1 + 1 + 1 from rfl, a1]
    exact h6 o 10034 (nx B n s) W1 U L m1 (f1 + 1) (g + 1) a2 (FQ_trans F a3) (by omega) hu htp hb h0 ho6 (by rw [nee6]; omega) (by unfold en; omega) (by unfold en; omega) (Or.inl rfl) ok bad
  rw [if_neg c11] at ok bad
  by_cases c12 : isW B n (lit 12) s = true
  · rw [if_pos c12] at ok bad
    have gt := isW_gt okt c12
    obtain ⟨m1, a1, a2, a3⟩ := PT_pair (v1 := v1) (f := f1 + 1) (g := g + 1) Q (Or.inr ⟨rfl, c12⟩)
    rw [show f1 + 2 = f1 + 1 + 1 from rfl, a1]
    exact h6 o 10035 (nx B n s) W1 U L m1 (f1 + 1) (g + 1) a2 (FQ_trans F a3) (by omega) hu htp hb h0 ho6 (by rw [nee6]; omega) (by unfold en; omega) (by unfold en; omega) (Or.inr rfl) ok bad
  rw [if_neg c12] at ok bad
  by_cases c13 : isW B n (lit 13) s = true
  · rw [if_pos c13] at ok bad
    exact h7 o 10011 s W1 U L m (f1 + 2) (g + 1) Q F hz hu htp hb h0 ho6 (by rw [nee7]; omega) e1' eg' (Or.inl ⟨rfl, c13⟩) ok bad
  rw [if_neg c13] at ok bad
  by_cases c14 : q = true ∧ isW B n (lit 14) s = true
  · rw [if_pos c14] at ok bad
    exact h7 o 10012 s W1 U L m (f1 + 2) (g + 1) Q F hz hu htp hb h0 ho6 (by rw [nee7]; omega) e1' eg' (Or.inr ⟨rfl, c14.1, c14.2⟩) ok bad
  rw [if_neg c14] at ok bad
  have wo : wof B n q s = -1 := by
    unfold wof
    rw [if_neg c13, if_neg c14]
  cases el : lea B n q s with
  | none =>
    have eN : sNum B n 0 9999 s = .inl (1, tq B n s) := by
      unfold sNum
      rw [if_neg c2]
    obtain ⟨m1, a1, a2, a3⟩ := (PT_leaf (v1 := v1) (f := f1) (g := g) Q hb0 hb htp hu (by omega) h0 ho6 (by simpa using c40) (by simpa using c11) (by simpa using c12) wo).2 _ _ el eN
    rw [a1]
    rw [el] at bad
    exact bad _ _ rfl m1 a2 (FQ_trans F a3)
  | some t =>
    have gt := nx_gt okt (show tkd B n s ≠ 0 by rw [(lea_t el).1]; decide)
    obtain ⟨m1, a1, a2, a3⟩ := (PT_leaf (v1 := v1) (f := f1) (g := g + 1) Q hb0 hb htp hu (by omega) h0 ho6 (by simpa using c40) (by simpa using c11) (by simpa using c12) wo).1 t (Or.inl el)
    rw [a1]
    rw [el] at ok
    exact ok _ _ rfl m1 xLF (g + 1) a2 (FQ_trans F a3) (by unfold en; rw [xLF_eq]; omega) (by unfold en; omega)
theorem R_all (hb0 : 0 ≤ b) : ∀ f : Nat, R3 P B n q v1 b m0 f ∧ R4 P B n q v1 b m0 f ∧ R5 P B n q v1 b m0 f ∧ R6 P B n q v1 b m0 f ∧ R7 P B n q v1 b m0 f
  | 0 => by
    refine ⟨?_, ?_, ?_, ?_, ?_⟩
    · intro o s W L m f1 g Q F hz htp hb h0 h6 hf
      rw [nee3] at hf; omega
    · intro o s W L m f1 g Q F hz htp hb h0 h6 hf
      rw [nee4] at hf; omega
    · intro o s W1 U L m f1 g Q F hz hu htp hb h0 h6 hf
      rw [nee5] at hf; omega
    · intro o t s W1 U L m f1 g Q F hz hu htp hb h0 h6 hf
      rw [nee6] at hf; omega
    · intro o t s W1 U L m f1 g Q F hz hu htp hb h0 h6 hf
      rw [nee7] at hf; omega
  | f + 1 => by
    obtain ⟨r3, r4, r5, r6, r7⟩ := R_all hb0 f
    exact ⟨R3_of r4, R4_of r5, R5_of hb0 r3 r6 r7, R6_of hb0 r3, R7_of r5⟩
end RCP
