/-! the reference reads tests as they are told -/
def KTO (P : xr → Prop) (B : Int → Int) (n : Int) (q : Bool) (b : Int) (m0 : xm) (s : Int × Int) (W L : List Int) (o : Int) : Prop := ∀ m f2 f, QS m B n q s W L o b → FQ m0 m → en n f2 s → en n f s → P (GT f2 f m)
def KTB (P : xr → Prop) (m0 : xm) (k p : Int) : Prop := ∀ m, RB m k p → FQ m0 m → P (some (0, m))
def T2 (P : xr → Prop) (B : Int → Int) (n : Int) (q : Bool) (b : Int) (m0 : xm) (f : Nat) : Prop := ∀ (o : Int) (s : Int × Int) (W1 N L : List Int) (m : xm) (f1 : Nat), QS m B n q s (N.map rtk ++ W1) L o b → FQ m0 m → ((N.length + W1.length + L.length : Nat) : Int) ≤ s.1 → (∀ y ∈ N, y = 10010) → tst W1 → tpo W1 (fun x => x ≠ 12) → (N.length : Int) ≤ o → o ≤ 6 → nee 2 o < (f : Int) → en n f1 s →
  (∀ s' C, sp B n q f 2 o 0 s = .inr (s', C) → KTO P B n q b m0 s' W1 (L ++ C ++ N) (o - N.length)) → (∀ k p, sp B n q f 2 o 0 s = .inl (k, p) → KTB P m0 k p) → P (r_qTest_2 f1 1 m)
def T1 (P : xr → Prop) (B : Int → Int) (n : Int) (q : Bool) (b : Int) (m0 : xm) (f : Nat) : Prop := ∀ (o : Int) (s : Int × Int) (W L : List Int) (m : xm) (f1 : Nat), QS m B n q s W L o b → FQ m0 m → ((W.length + L.length : Nat) : Int) ≤ s.1 → tst W → tpo W (fun x => x ≠ 12 ∧ x ≠ 10) → 0 ≤ o → o ≤ 6 → nee 1 o < (f : Int) → en n f1 s →
  (∀ s' C Pm L2, sp B n q f 1 o 0 s = .inr (s', C) → L2 ++ Pm = L ++ C → (∀ y ∈ Pm, y = 10021) → isW B n (lit 20) s' = false → KTO P B n q b m0 s' (Pm.map rtk ++ W) L2 o) → (∀ k p, sp B n q f 1 o 0 s = .inl (k, p) → KTB P m0 k p) → P (r_qTest_2 f1 1 m)
def T0 (P : xr → Prop) (B : Int → Int) (n : Int) (q : Bool) (b : Int) (m0 : xm) (f : Nat) : Prop := ∀ (o : Int) (s : Int × Int) (W L : List Int) (m : xm) (f1 : Nat), QS m B n q s W L o b → FQ m0 m → ((W.length + L.length : Nat) : Int) ≤ s.1 → tst W → tpo W (fun x => x ≠ 12 ∧ x ≠ 10 ∧ x ≠ 11) → 0 ≤ o → o ≤ 6 → nee 0 o < (f : Int) → en n f1 s →
  (∀ s' C Pm L2, sp B n q f 0 o 0 s = .inr (s', C) → L2 ++ Pm = L ++ C → (∀ y ∈ Pm, y = 10020 ∨ y = 10021) → isW B n (lit 20) s' = false → isW B n (lit 21) s' = false → KTO P B n q b m0 s' (Pm.map rtk ++ W) L2 o) → (∀ k p, sp B n q f 0 o 0 s = .inl (k, p) → KTB P m0 k p) → P (r_qTest_2 f1 1 m)
section RCT
variable {P : xr → Prop} {B : Int → Int} {n : Int} {q : Bool} {b : Int} {m0 : xm}
theorem tkW_none {w : List Nat} {t : Int} {s : Int × Int} (h : tkW B n w t s = none) : isW B n w s = false := by
  unfold tkW at h
  split at h
  · cases h
  · next c => simpa using c
theorem tkW_some {w : List Nat} {t t' : Int} {s : Int × Int} (h : tkW B n w t s = some t') : isW B n w s = true ∧ t' = t := by
  unfold tkW at h
  split at h
  · next c => cases h; exact ⟨c, rfl⟩
  · cases h
theorem loop1 {f : Nat} (h2 : T2 P B n q b m0 f) {o : Int} (h0 : 0 ≤ o) (h6 : o ≤ 6) (hf : nee 2 o < (f : Int)) {W L : List Int} (ht : tst W) (htp : tpo W (fun x => x ≠ 12 ∧ x ≠ 10)) : ∀ (lg : Nat) {s : Int × Int} {C Pm L2 : List Int} {m : xm} {f2 g : Nat}, QS m B n q s (Pm.map rtk ++ W) L2 o b → FQ m0 m → L2 ++ Pm = L ++ C → (∀ y ∈ Pm, y = 10021) → ((Pm.length + W.length + L2.length : Nat) : Int) ≤ s.1 → (n - s.1).toNat < lg → en n f2 s → en n g s →
    (∀ s' C' Pm' L2', lp B n (tkW B n (lit 20) 10021) (sp B n q f 2 o 0) lg s C = .inr (s', C') → L2' ++ Pm' = L ++ C' → (∀ y ∈ Pm', y = 10021) → isW B n (lit 20) s' = false → KTO P B n q b m0 s' (Pm'.map rtk ++ W) L2' o) →
    (∀ k p, lp B n (tkW B n (lit 20) 10021) (sp B n q f 2 o 0) lg s C = .inl (k, p) → KTB P m0 k p) → P (GT f2 g m)
  | 0, _, _, _, _, _, _, _, _, _, _, _, _, hl, _, _, _, _ => by omega
  | lg + 1, s, C, Pm, L2, m, f2, g, Q, F, he, hp, hz, hl, e2, eg, ok, bad => by
    have okt := Q.1.2.1
    have n16 := Q.1.1.2.2.1
    have o1 := okt.2.1
    cases hk : tkW B n (lit 20) 10021 s with
    | none => exact ok s C Pm L2 (by unfold lp; rw [hk]; rfl) he hp (tkW_none hk) m f2 g Q F e2 eg
    | some t =>
      obtain ⟨hc, rfl⟩ := tkW_some hk
      unfold en at e2 eg
      obtain ⟨f2, rfl⟩ : ∃ f', f2 = f' + 1 := ⟨f2 - 1, by omega⟩
      have gt := isW_gt okt hc
      have okn := okT_nx (B := B) okt
      have on1 := okn.2.1
      obtain ⟨m1, a1, a2, a3⟩ := GT_and (f2 := f2) (f := g) Q (fun x r z => (htp x r z).2) hp (by omega) hc
      rw [a1]
      refine h2 o (nx B n s) (10 :: W) [] (L2 ++ Pm) m1 g a2 (FQ_trans F a3) (by rw [List.length_nil, List.length_cons, List.length_append]; omega) (fun y hy => by cases hy) ?_ (fun x r z => by cases z; decide) (by rw [List.length_nil]; omega) h6 hf (by unfold en; omega) ?_ ?_
      · intro x hx
        rcases List.mem_cons.mp hx with z | z
        · exact Or.inl z
        · exact ht x z
      · intro s2 C2 e3 m2 f3 g3 Q3 F3 ef eg3
        obtain ⟨k1, k2, k3, k4⟩ := sp_gd f 2 okn h0 h6 (tA (by decide) (by decide)) s2 C2 e3
        rw [List.append_nil, List.length_nil, show o - ((0 : Nat) : Int) = o by omega] at Q3
        have el : lp B n (tkW B n (lit 20) 10021) (sp B n q f 2 o 0) (lg + 1) s C = lp B n (tkW B n (lit 20) 10021) (sp B n q f 2 o 0) lg s2 (C ++ (C2 ++ [10021])) := by
          conv => lhs; unfold lp
          rw [hk]
          dsimp only [obd]
          rw [e3]
          rfl
        rw [el] at ok bad
        refine loop1 h2 h0 h6 hf ht htp lg (s := s2) (C := C ++ (C2 ++ [10021])) (Pm := [10021]) (L2 := L2 ++ Pm ++ C2) (m := m2) Q3 F3 (by rw [he]; simp only [List.append_assoc]) (fun y hy => List.mem_singleton.mp hy) ?_ (by omega) ef eg3 ok bad
        rw [List.length_cons, List.length_nil, List.length_append, List.length_append]
        omega
      · intro k p e3
        refine bad k p ?_
        unfold lp
        rw [hk]
        dsimp only [obd]
        rw [e3]
        rfl
theorem T1_of {f : Nat} (h2 : T2 P B n q b m0 f) : T1 P B n q b m0 (f + 1) := by
  intro o s W L m f1 Q F hz ht htp h0 h6 hf e1 ok bad
  rw [nee1] at hf
  have okt := Q.1.2.1
  have n16 := Q.1.1.2.2.1
  unfold sp at ok bad
  refine h2 o s W [] L m f1 Q F (by rw [List.length_nil]; omega) (fun y hy => by cases hy) ht (fun x r z => (htp x r z).1) (by rw [List.length_nil]; omega) h6 (by rw [nee2]; omega) e1 ?_ ?_
  · intro s2 C2 e3 m2 f3 g3 Q3 F3 ef eg3
    obtain ⟨k1, k2, k3, k4⟩ := sp_gd f 2 okt h0 h6 (tA (by decide) (by decide)) s2 C2 e3
    have k5 := k1.2.1
    rw [List.append_nil, List.length_nil, show o - ((0 : Nat) : Int) = o by omega] at Q3
    rw [e3, sbd_ir] at ok bad
    refine loop1 h2 h0 h6 (by rw [nee2]; omega) ht htp 1700 (s := s2) (C := C2) (Pm := []) (L2 := L ++ C2) (m := m2) Q3 F3 (by rw [List.append_nil]) (fun y hy => by cases hy) ?_ (by have := k1.1; omega) ef eg3 ok bad
    rw [List.length_nil, List.length_append]
    omega
  · intro k p e3
    rw [e3, sbd_il] at bad
    exact bad k p rfl
theorem loop0 {f : Nat} (h1 : T1 P B n q b m0 f) {o : Int} (h0 : 0 ≤ o) (h6 : o ≤ 6) (hf : nee 1 o < (f : Int)) {W L : List Int} (ht : tst W) (htp : tpo W (fun x => x ≠ 12 ∧ x ≠ 10 ∧ x ≠ 11)) : ∀ (lg : Nat) {s : Int × Int} {C Pm L2 : List Int} {m : xm} {f2 g : Nat}, QS m B n q s (Pm.map rtk ++ W) L2 o b → FQ m0 m → L2 ++ Pm = L ++ C → (∀ y ∈ Pm, y = 10020 ∨ y = 10021) → isW B n (lit 20) s = false → ((Pm.length + W.length + L2.length : Nat) : Int) ≤ s.1 → (n - s.1).toNat < lg → en n f2 s → en n g s →
    (∀ s' C' Pm' L2', lp B n (tkW B n (lit 21) 10020) (sp B n q f 1 o 0) lg s C = .inr (s', C') → L2' ++ Pm' = L ++ C' → (∀ y ∈ Pm', y = 10020 ∨ y = 10021) → isW B n (lit 20) s' = false → isW B n (lit 21) s' = false → KTO P B n q b m0 s' (Pm'.map rtk ++ W) L2' o) →
    (∀ k p, lp B n (tkW B n (lit 21) 10020) (sp B n q f 1 o 0) lg s C = .inl (k, p) → KTB P m0 k p) → P (GT f2 g m)
  | 0, _, _, _, _, _, _, _, _, _, _, _, _, _, hl, _, _, _, _ => by omega
  | lg + 1, s, C, Pm, L2, m, f2, g, Q, F, he, hp, hno, hz, hl, e2, eg, ok, bad => by
    have okt := Q.1.2.1
    have n16 := Q.1.1.2.2.1
    have o1 := okt.2.1
    cases hk : tkW B n (lit 21) 10020 s with
    | none => exact ok s C Pm L2 (by unfold lp; rw [hk]; rfl) he hp hno (tkW_none hk) m f2 g Q F e2 eg
    | some t =>
      obtain ⟨hc, rfl⟩ := tkW_some hk
      unfold en at e2 eg
      obtain ⟨f2, rfl⟩ : ∃ f', f2 = f' + 1 := ⟨f2 - 1, by omega⟩
      have gt := isW_gt okt hc
      have okn := okT_nx (B := B) okt
      have on1 := okn.2.1
      obtain ⟨m1, a1, a2, a3⟩ := GT_or (f2 := f2) (f := g) Q (fun x r z => (htp x r z).2) hp (by omega) hc
      rw [a1]
      refine h1 o (nx B n s) (11 :: W) (L2 ++ Pm) m1 g a2 (FQ_trans F a3) (by rw [List.length_cons, List.length_append]; omega) ?_ (fun x r z => by cases z; decide) h0 h6 hf (by unfold en; omega) ?_ ?_
      · intro x hx
        rcases List.mem_cons.mp hx with z | z
        · exact Or.inr (Or.inl z)
        · exact ht x z
      · intro s2 C2 Pm2 L22 e3 he2 hp2 hno2 m2 f3 g3 Q3 F3 ef eg3
        obtain ⟨k1, k2, k3, k4⟩ := sp_gd f 1 okn h0 h6 (tA (by decide) (by decide)) s2 C2 e3
        have ll := lenEq he2
        rw [List.length_append] at ll
        have el : lp B n (tkW B n (lit 21) 10020) (sp B n q f 1 o 0) (lg + 1) s C = lp B n (tkW B n (lit 21) 10020) (sp B n q f 1 o 0) lg s2 (C ++ (C2 ++ [10020])) := by
          conv => lhs; unfold lp
          rw [hk]
          dsimp only [obd]
          rw [e3]
          rfl
        rw [el] at ok bad
        refine loop0 h1 h0 h6 hf ht htp lg (s := s2) (C := C ++ (C2 ++ [10020])) (Pm := Pm2 ++ [10020]) (L2 := L22) (m := m2) ?_ F3 ?_ ?_ hno2 ?_ (by omega) ef eg3 ok bad
        · rw [List.map_append, List.append_assoc]
          exact Q3
        · rw [← List.append_assoc, he2, he]
          simp only [List.append_assoc]
        · intro y hy
          rcases List.mem_append.mp hy with z | z
          · exact Or.inr (hp2 y z)
          · exact Or.inl (List.mem_singleton.mp z)
        · rw [List.length_append, List.length_cons, List.length_nil]
          omega
      · intro k p e3
        refine bad k p ?_
        unfold lp
        rw [hk]
        dsimp only [obd]
        rw [e3]
        rfl
theorem T0_of {f : Nat} (h1 : T1 P B n q b m0 f) : T0 P B n q b m0 (f + 1) := by
  intro o s W L m f1 Q F hz ht htp h0 h6 hf e1 ok bad
  rw [nee0] at hf
  have okt := Q.1.2.1
  have n16 := Q.1.1.2.2.1
  unfold sp at ok bad
  refine h1 o s W L m f1 Q F hz ht (fun x r z => ⟨(htp x r z).1, (htp x r z).2.1⟩) h0 h6 (by rw [nee1]; omega) e1 ?_ ?_
  · intro s2 C2 Pm2 L22 e3 he2 hp2 hno2 m2 f3 g3 Q3 F3 ef eg3
    obtain ⟨k1, k2, k3, k4⟩ := sp_gd f 1 okt h0 h6 (tA (by decide) (by decide)) s2 C2 e3
    have k5 := k1.2.1
    have ll := lenEq he2
    rw [e3, sbd_ir] at ok bad
    exact loop0 h1 h0 h6 (by rw [nee1]; omega) ht htp 1700 (s := s2) (C := C2) (Pm := Pm2) (L2 := L22) (m := m2) Q3 F3 he2 (fun y hy => Or.inr (hp2 y hy)) hno2 (by omega) (by have := k1.1; omega) ef eg3 ok bad
  · intro k p e3
    rw [e3, sbd_il] at bad
    exact bad k p rfl
theorem T2_of {f : Nat} (h2 : T2 P B n q b m0 f) (h0t : T0 P B n q b m0 f) : T2 P B n q b m0 (f + 1) := by
  intro o s W1 N L m f1 Q F hz hN ht htp h0 h6 hf e1 ok bad
  rw [nee2] at hf
  have okt := Q.1.2.1
  have n16 := Q.1.1.2.2.1
  have o1 := okt.2.1
  have okn := okT_nx (B := B) okt
  have on1 := okn.2.1
  have lw : (N.map rtk ++ W1).length = N.length + W1.length := by rw [List.length_append, List.length_map]
  unfold en at e1
  obtain ⟨f1, rfl⟩ : ∃ f', f1 = f' + 2 := ⟨f1 - 2, by omega⟩
  by_cases c9 : isW B n (lit 9) s = true
  · unfold sp opo at ok bad
    rw [if_pos c9] at ok bad
    have gt := isW_gt okt c9
    have tn := fun f => TT_not (f := f) Q (by omega) (by omega) h6 c9
    by_cases c : o < 6
    · rw [if_pos c] at ok bad
      dsimp only at ok bad
      obtain ⟨m1, a1, a2, a3⟩ := (tn (f1 + 1)).1 c
      rw [show f1 + 2 = f1 + 1 + 1 from rfl, a1]
      refine h2 (o + 1) (nx B n s) W1 (10010 :: N) L m1 (f1 + 1) a2 (FQ_trans F a3) (by rw [List.length_cons]; omega) ?_ ht htp (by rw [List.length_cons]; omega) (by omega) (by rw [nee2]; omega) (by unfold en; omega) ?_ ?_
      · intro y hy
        rcases List.mem_cons.mp hy with z | z
        · exact z
        · exact hN y z
      · intro s2 C2 e3
        rw [e3] at ok
        have := ok s2 (C2 ++ [10010]) rfl
        rw [List.length_cons, show o + 1 - ((N.length + 1 : Nat) : Int) = o - (N.length : Int) by omega]
        rw [← List.append_assoc, List.append_assoc (L ++ C2)] at this
        exact this
      · intro k p e3
        rw [e3] at bad
        exact bad k p rfl
    · rw [if_neg c] at bad
      obtain ⟨m1, a1, a2, a3⟩ := (tn f1).2 c
      rw [a1]
      exact bad _ _ rfl m1 a2 (FQ_trans F a3)
  by_cases c91 : isG B n 91 s = true
  · unfold sp opo at ok bad
    rw [if_neg c9, if_pos c91] at ok bad
    have gt := isG_gt okt c91
    have tn := fun f => TT_sq (f := f) Q (by omega) (by omega) h6 c91
    by_cases c : o < 6
    · rw [if_pos c] at ok bad
      dsimp only at ok bad
      obtain ⟨m1, a1, a2, a3⟩ := (tn (f1 + 1)).1 c
      rw [show f1 + 2 = f1 + 1 + 1 from rfl, a1]
      refine h0t (o + 1) (nx B n s) (25 :: (N.map rtk ++ W1)) L m1 (f1 + 1) a2 (FQ_trans F a3) (by rw [List.length_cons, lw]; omega) ?_ (fun x r z => by cases z; decide) (by omega) (by omega) (by rw [nee0]; omega) (by unfold en; omega) ?_ ?_
      · intro x hx
        rcases List.mem_cons.mp hx with z | z
        · exact Or.inr (Or.inr (Or.inr z))
        · rcases List.mem_append.mp z with y | y
          · obtain ⟨v, hv, e⟩ := List.mem_map.mp y
            rw [hN v hv] at e
            exact Or.inr (Or.inr (Or.inl e.symm))
          · exact ht x y
      · intro s1 C1 Pm1 L1 x1 he1 hp1 hn1 hn2 m2 f2 g2 Q2 F2 ef2 eg2
        rw [x1] at ok bad
        obtain ⟨k1, k2, k3, k4⟩ := sp_gd f 0 okn (show 0 ≤ o + 1 by omega) (by omega) (tA (by decide) (by decide)) s1 C1 x1
        have l1 := lenEq he1
        have k5 := k1.2.1
        rw [sbd_ir] at ok bad
        unfold en at ef2 eg2
        obtain ⟨f2, rfl⟩ : ∃ f', f2 = f' + 1 := ⟨f2 - 1, by omega⟩
        obtain ⟨g2, rfl⟩ : ∃ f', g2 = f' + 1 := ⟨g2 - 1, by omega⟩
        unfold ndG at ok bad
        by_cases c93 : isG B n 93 s1 = true
        · rw [if_pos c93] at ok
          have gt3 := isG_gt k1 c93
          have on3 := (okT_nx (B := B) k1).2.1
          obtain ⟨m5, d1, d2, d3⟩ := GT_close (f2 := f2) (f := g2 + 1) Q2 htp hp1 hN (by omega) (by omega) (by omega) c93
          rw [d1]
          rw [he1, show o + 1 - 1 - (N.length : Int) = o - N.length by omega] at d2
          exact ok _ _ rfl m5 f2 (g2 + 1) d2 (FQ_trans F2 d3) (by unfold en; omega) (by unfold en; omega)
        · rw [if_neg c93] at bad
          obtain ⟨m5, d1, d2, d3⟩ := GT_fail (f2 := f2) (f := g2) Q2 (by rw [lw]; omega) hn1 hn2 (by simpa using c93)
          rw [d1]
          exact bad _ _ rfl m5 d2 (FQ_trans F2 d3)
      · intro k p x1
        rw [x1] at bad
        exact bad k p rfl
    · rw [if_neg c] at bad
      obtain ⟨m1, a1, a2, a3⟩ := (tn f1).2 c
      rw [a1]
      exact bad _ _ rfl m1 a2 (FQ_trans F a3)
  have tf := fun f1 => TT_fact (f := f) (f1 := f1) Q ht htp hN hz h0 h6 (by rw [nee3]; omega) (by simpa using c9) (by simpa using c91)
  cases e2 : sp B n q (f + 1) 2 o 0 s with
  | inl x =>
    obtain ⟨k, p⟩ := x
    obtain ⟨m1, a1, a2, a3⟩ := (tf f1).2 k p e2
    rw [a1]
    exact bad k p e2 m1 a2 (FQ_trans F a3)
  | inr x =>
    obtain ⟨s', C⟩ := x
    obtain ⟨k1, k2, k3, k4⟩ := sp_gd (f + 1) 2 okt (show 0 ≤ o by omega) h6 (tA (by decide) (by decide)) s' C e2
    have k5 := k1.1
    have k6 := k1.2.1
    obtain ⟨m1, a1, a2, a3⟩ := (tf (f1 + 1)).1 s' C e2
    rw [show f1 + 2 = f1 + 1 + 1 from rfl, a1]
    exact ok s' C e2 m1 xLF (f1 + 1) a2 (FQ_trans F a3) (by unfold en; rw [xLF_eq]; omega) (by unfold en; omega)
theorem T_all : ∀ f : Nat, T0 P B n q b m0 f ∧ T1 P B n q b m0 f ∧ T2 P B n q b m0 f
  | 0 => by
    refine ⟨?_, ?_, ?_⟩
    · intro o s W L m f1 Q F hz ht htp h0 h6 hf
      rw [nee0] at hf; omega
    · intro o s W L m f1 Q F hz ht htp h0 h6 hf
      rw [nee1] at hf; omega
    · intro o s W1 N L m f1 Q F hz hN ht htp h0 h6 hf
      rw [nee2] at hf; omega
  | f + 1 => by
    obtain ⟨t0, t1, t2⟩ := T_all f
    exact ⟨T0_of t1, T1_of t2, T2_of t2 t0⟩
/-- a whole test -/
theorem r_qTest_S {m : xm} {s : Int × Int} {f : Nat} (Q : QS m B n q s [] [] 0 b) (hf : nee 0 0 < (f : Int)) : ∃ m', r_qTest m = some (0, m') ∧ (∀ s' C, sp B n q f 0 0 0 s = .inr (s', C) → QS m' B n q s' [] C 0 b) ∧ (∀ k p, sp B n q f 0 0 0 s = .inl (k, p) → RB m' k p) ∧ FQ m m' := by
  have okt := Q.1.2.1
  have n16 := Q.1.1.2.2.1
  have o1 := okt.1
  have o2 := okt.2.1
  have key := (T_all (P := fun X => ∃ m', X = some (0, m') ∧ (∀ s' C, sp B n q f 0 0 0 s = .inr (s', C) → QS m' B n q s' [] C 0 b) ∧ (∀ k p, sp B n q f 0 0 0 s = .inl (k, p) → RB m' k p) ∧ FQ m m') (B := B) (n := n) (q := q) (b := b) (m0 := m) f).1 0 s [] [] m xLF Q FQ_refl (by rw [List.length_nil]; omega) (fun x hx => by cases hx) (fun x r z => by cases z) (by decide) (by decide) hf (by unfold en; rw [xLF_eq]; omega) ?_ ?_
  · exact key
  · intro s' C Pm L2 e1 he hp h1 h2 m2 f2 g2 Q2 F2 ef eg
    obtain ⟨k1, k2, k3, k4⟩ := sp_gd f 0 okt (by decide) (by decide) (tA (by decide) (by decide)) s' C e1
    have k5 := k1.2.1
    have ll := lenEq he
    rw [List.length_nil] at ll
    rw [List.nil_append] at he
    rw [List.append_nil] at Q2
    unfold en at ef eg
    obtain ⟨f2, rfl⟩ : ∃ f', f2 = f' + 1 := ⟨f2 - 1, by omega⟩
    obtain ⟨g2, rfl⟩ : ∃ f', g2 = f' + 1 := ⟨g2 - 1, by omega⟩
    obtain ⟨m3, a1, a2, a3⟩ := GT_end (f2 := f2) (f := g2) Q2 hp (by omega) h1 h2
    rw [he] at a2
    refine ⟨m3, a1, fun s'' C' z => ?_, fun k p z => ?_, FQ_trans F2 a3⟩
    · rw [e1] at z
      cases z
      exact a2
    · rw [e1] at z
      cases z
  · intro k p e1 m2 F2 f2
    refine ⟨m2, rfl, fun s'' C' z => ?_, fun k' p' z => ?_, f2⟩
    · rw [e1] at z
      cases z
    · rw [e1] at z
      cases z
      exact F2
end RCT
