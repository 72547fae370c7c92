/-! what holds between the calls: the program's cells beside the reference's -/
def TP (m : xm) : Prop := ld m 1 1 = ld m 78 1 ∧ 0 ≤ ld m 1 1 ∧ ld m 1 1 ≤ 1600 ∧ ∀ i, 0 ≤ i → i < ld m 1 1 → ld m 2 i = ld m 79 i ∧ 0 ≤ ld m 2 i ∧ ld m 2 i ≤ 255
def FA (m : xm) : Prop := ld m 3 4 = ld m 78 7 ∧ ld m 3 5 = ld m 78 8
def RF (m : xm) : Prop := ∀ i, 0 ≤ i → i < 6 → ld m 47 i = ld m 80 i
def HE (m : xm) (G : hv) : Prop := ld m 18 2 = ld m 78 58 ∧ 0 ≤ ld m 18 2 ∧ ld m 18 2 ≤ 20 ∧ ∀ k, 0 ≤ k → k < ld m 18 2 → (ld m 19 k = ld m 117 (2 * k) ∧ (ld m 19 k = 6 ∨ 0 ≤ ld m 19 k ∧ ld m 19 k < nN G)) ∧ ld m 20 k = ld m 117 (2 * k + 1) ∧ 0 ≤ ld m 20 k ∧ ld m 20 k ≤ bd (nD G)
def JU (m : xm) : Prop := ld m 0 14 = ld m 78 47 ∧ (ld m 0 14 ≠ 0 → ld m 44 0 = ld m 78 48 ∧ ld m 44 1 = ld m 78 49 ∧ ld m 44 2 = ld m 78 50)
def SL (m : xm) : Prop := (ld m 0 15 = 0 → ld m 78 56 = -1 ∧ ld m 78 57 = -1) ∧ (ld m 0 15 ≠ 0 → ld m 45 0 = ld m 78 56 ∧ ld m 45 1 = ld m 78 57)
def IM (m : xm) : Prop := ld m 0 16 = ld m 78 94 ∧ 0 ≤ ld m 0 16 ∧ ld m 0 16 ≤ 11 ∧ ∀ k, 0 ≤ k → k < ld m 0 16 → ld m 46 k = ld m 141 k
def SE (m : xm) : Prop := ldl m 0 17 = ldl m 78 63 ∧ 0 ≤ ldl m 0 17 ∧ ldl m 0 17 ≤ 2147483647
/-- a name's letters in the one number and in the other -/
def n32 : List Int → Int
  | [] => 0
  | c :: r => c + 32 * n32 r
def n27 : Int → List Int → Int
  | v, [] => v
  | v, c :: r => n27 (27 * v + c) r
def nmL (L : List Int) : Prop := 1 ≤ L.length ∧ L.length ≤ 6 ∧ ∀ c ∈ L, 1 ≤ c ∧ c ≤ 26
def nmR (x y : Int) : Prop := ∃ L, nmL L ∧ x = n27 0 L ∧ y = n32 L
def NM (m : xm) (G : hv) : Prop := ∀ t i, 0 ≤ t → t < 4 → 0 ≤ i → i < G 0 t → nmR (ldl m 102 (24 + 6 * t + i)) (G 9 (6 * t + i))
def HI (m : xm) (G : hv) : Prop := wfG G ∧ wfD G ∧ hl m 12 ≠ hl m 13 ∧ CH m (hl m 12) G ∧ CM m (hl m 12) G ∧ RH m G ∧ NM m G
/-- as all is at a time: the program's row in cell a, the reference's in cell b from o on -/
def SN (m : xm) (G : hv) (a b : Nat) (o : Int) : Prop := vs G (ld m a 0) ∧ (∀ l, 0 ≤ l → l < nL G → ld m b (o + 1 + l) = wd G (ld m a 0) l) ∧ ld m b (o + 5) = jm G (ld m a 0) ∧
  (ld m a 1 = ld m b o ∧ 0 ≤ ld m a 1 ∧ ld m a 1 ≤ 9999) ∧ (ld m a 2 = ld m b (o + 6) ∧ 0 ≤ ld m a 2 ∧ ld m a 2 ≤ 40) ∧
  ∀ i, 0 ≤ i → i < ld m a 2 → ld m a (3 + i) = 16 * ld m b (o + 7 + 3 * i) + 2 * ld m b (o + 8 + 3 * i) + ld m b (o + 9 + 3 * i) ∧ (0 ≤ ld m b (o + 7 + 3 * i) ∧ ld m b (o + 7 + 3 * i) ≤ 9999) ∧ (0 ≤ ld m b (o + 8 + 3 * i) ∧ ld m b (o + 8 + 3 * i) ≤ 5) ∧ (0 ≤ ld m b (o + 9 + 3 * i) ∧ ld m b (o + 9 + 3 * i) ≤ 1)
def PS (m : xm) (G : hv) : Prop := ld m 21 3 = ld m 78 61 ∧ 0 ≤ ld m 21 3 ∧ ld m 21 3 ≤ 20 ∧ (0 ≤ ld m 21 2 ∧ ld m 21 2 < 20) ∧ (0 ≤ ld m 78 62 ∧ ld m 78 62 < 20) ∧
  ∀ j, 0 ≤ j → j < ld m 21 3 → SN m G (24 + ((ld m 21 2 + j) % 20).toNat) 118 (127 * ((ld m 78 62 + 21 + j - ld m 21 3) % 20))
def Inv (m : xm) : Prop := ∃ G, HI m G ∧ SN m G 22 110 0 ∧ PS m G ∧ TP m ∧ FA m ∧ RF m ∧ HE m G ∧ JU m ∧ SL m ∧ IM m ∧ SE m
section CG
variable {m m' : xm} {G : hv}
theorem ldq {a : Nat} {k : Int} (h : m' a k = m a k) : ld m' a k = ld m a k := by
  unfold ld
  rw [h]
theorem ldlq {a : Nat} {k : Int} (h : m' a k = m a k) : ldl m' a k = ldl m a k := by
  unfold ldl
  rw [h]
def fTP (a : Nat) (k : Int) : Prop := (a = 1 ∧ k = 1) ∨ a = 2 ∨ (a = 78 ∧ k = 1) ∨ a = 79
theorem TP_cg (H : TP m) (e : ∀ a k, fTP a k → m' a k = m a k) : TP m' := by
  have e1 := ldq (e 1 1 (Or.inl ⟨rfl, rfl⟩))
  have e2 := ldq (e 78 1 (Or.inr (Or.inr (Or.inl ⟨rfl, rfl⟩))))
  have e3 : ∀ k, ld m' 2 k = ld m 2 k := fun k => ldq (e 2 k (Or.inr (Or.inl rfl)))
  have e4 : ∀ k, ld m' 79 k = ld m 79 k := fun k => ldq (e 79 k (Or.inr (Or.inr (Or.inr rfl))))
  unfold TP
  simp only [e1, e2, e3, e4]
  exact H
def fFA (a : Nat) (k : Int) : Prop := (a = 3 ∧ (k = 4 ∨ k = 5)) ∨ (a = 78 ∧ (k = 7 ∨ k = 8))
theorem FA_cg (H : FA m) (e : ∀ a k, fFA a k → m' a k = m a k) : FA m' := by
  unfold FA
  rw [ldq (e 3 4 (Or.inl ⟨rfl, Or.inl rfl⟩)), ldq (e 3 5 (Or.inl ⟨rfl, Or.inr rfl⟩)), ldq (e 78 7 (Or.inr ⟨rfl, Or.inl rfl⟩)), ldq (e 78 8 (Or.inr ⟨rfl, Or.inr rfl⟩))]
  exact H
def fRF (a : Nat) (_ : Int) : Prop := a = 47 ∨ a = 80
theorem RF_cg (H : RF m) (e : ∀ a k, fRF a k → m' a k = m a k) : RF m' := by
  intro i h1 h2
  rw [ldq (e 47 i (Or.inl rfl)), ldq (e 80 i (Or.inr rfl))]
  exact H i h1 h2
def fHE (a : Nat) (k : Int) : Prop := (a = 18 ∧ k = 2) ∨ a = 19 ∨ a = 20 ∨ (a = 78 ∧ k = 58) ∨ a = 117
theorem HE_cg (H : HE m G) (e : ∀ a k, fHE a k → m' a k = m a k) : HE m' G := by
  have e1 := ldq (e 18 2 (Or.inl ⟨rfl, rfl⟩))
  have e2 := ldq (e 78 58 (Or.inr (Or.inr (Or.inr (Or.inl ⟨rfl, rfl⟩)))))
  have e3 : ∀ k, ld m' 19 k = ld m 19 k := fun k => ldq (e 19 k (Or.inr (Or.inl rfl)))
  have e4 : ∀ k, ld m' 20 k = ld m 20 k := fun k => ldq (e 20 k (Or.inr (Or.inr (Or.inl rfl))))
  have e5 : ∀ k, ld m' 117 k = ld m 117 k := fun k => ldq (e 117 k (Or.inr (Or.inr (Or.inr (Or.inr rfl)))))
  unfold HE
  simp only [e1, e2, e3, e4, e5]
  exact H
def fJU (a : Nat) (k : Int) : Prop := (a = 0 ∧ k = 14) ∨ a = 44 ∨ (a = 78 ∧ 47 ≤ k ∧ k ≤ 50)
theorem JU_cg (H : JU m) (e : ∀ a k, fJU a k → m' a k = m a k) : JU m' := by
  have e1 := ldq (e 0 14 (Or.inl ⟨rfl, rfl⟩))
  have e3 : ∀ k, ld m' 44 k = ld m 44 k := fun k => ldq (e 44 k (Or.inr (Or.inl rfl)))
  have e4 : ∀ k, 47 ≤ k → k ≤ 50 → ld m' 78 k = ld m 78 k := fun k g1 g2 => ldq (e 78 k (Or.inr (Or.inr ⟨rfl, g1, g2⟩)))
  unfold JU
  rw [e1, e3, e3, e3, e4 47 (by decide) (by decide), e4 48 (by decide) (by decide), e4 49 (by decide) (by decide), e4 50 (by decide) (by decide)]
  exact H
def fSL (a : Nat) (k : Int) : Prop := (a = 0 ∧ k = 15) ∨ a = 45 ∨ (a = 78 ∧ (k = 56 ∨ k = 57))
theorem SL_cg (H : SL m) (e : ∀ a k, fSL a k → m' a k = m a k) : SL m' := by
  have e1 := ldq (e 0 15 (Or.inl ⟨rfl, rfl⟩))
  have e3 : ∀ k, ld m' 45 k = ld m 45 k := fun k => ldq (e 45 k (Or.inr (Or.inl rfl)))
  unfold SL
  rw [e1, e3, e3, ldq (e 78 56 (Or.inr (Or.inr ⟨rfl, Or.inl rfl⟩))), ldq (e 78 57 (Or.inr (Or.inr ⟨rfl, Or.inr rfl⟩)))]
  exact H
def fIM (a : Nat) (k : Int) : Prop := (a = 0 ∧ k = 16) ∨ a = 46 ∨ a = 141 ∨ (a = 78 ∧ k = 94)
theorem IM_cg (H : IM m) (e : ∀ a k, fIM a k → m' a k = m a k) : IM m' := by
  have e1 := ldq (e 0 16 (Or.inl ⟨rfl, rfl⟩))
  have e2 := ldq (e 78 94 (Or.inr (Or.inr (Or.inr ⟨rfl, rfl⟩))))
  have e3 : ∀ k, ld m' 46 k = ld m 46 k := fun k => ldq (e 46 k (Or.inr (Or.inl rfl)))
  have e4 : ∀ k, ld m' 141 k = ld m 141 k := fun k => ldq (e 141 k (Or.inr (Or.inr (Or.inl rfl))))
  unfold IM
  simp only [e1, e2, e3, e4]
  exact H
def fSE (a : Nat) (k : Int) : Prop := (a = 0 ∧ k = 17) ∨ (a = 78 ∧ k = 63)
theorem SE_cg (H : SE m) (e : ∀ a k, fSE a k → m' a k = m a k) : SE m' := by
  unfold SE
  rw [ldlq (e 0 17 (Or.inl ⟨rfl, rfl⟩)), ldlq (e 78 63 (Or.inr ⟨rfl, rfl⟩))]
  exact H
theorem SN_cg {a b : Nat} {o : Int} (H : SN m G a b o) (ea : ∀ k, m' a k = m a k) (eb : ∀ k, m' b k = m b k) : SN m' G a b o := by
  have e1 : ∀ k, ld m' a k = ld m a k := fun k => ldq (ea k)
  have e2 : ∀ k, ld m' b k = ld m b k := fun k => ldq (eb k)
  unfold SN
  simp only [e1, e2]
  exact H
def fPS (a : Nat) (k : Int) : Prop := (a = 21 ∧ (k = 2 ∨ k = 3)) ∨ (24 ≤ a ∧ a ≤ 43) ∨ a = 118 ∨ (a = 78 ∧ (k = 61 ∨ k = 62))
theorem PS_cg (H : PS m G) (e : ∀ a k, fPS a k → m' a k = m a k) : PS m' G := by
  unfold PS
  rw [ldq (e 21 2 (Or.inl ⟨rfl, Or.inl rfl⟩)), ldq (e 21 3 (Or.inl ⟨rfl, Or.inr rfl⟩)), ldq (e 78 61 (Or.inr (Or.inr (Or.inr ⟨rfl, Or.inl rfl⟩)))), ldq (e 78 62 (Or.inr (Or.inr (Or.inr ⟨rfl, Or.inr rfl⟩))))]
  obtain ⟨h1, h2, h3, h4, h5, h6⟩ := H
  refine ⟨h1, h2, h3, h4, h5, fun j g1 g2 => SN_cg (h6 j g1 g2) (fun k => e _ k (Or.inr (Or.inl ⟨by omega, by omega⟩))) (fun k => e _ k (Or.inr (Or.inr (Or.inl rfl))))⟩
def fHI (a : Nat) (k : Int) : Prop := (a = 0 ∧ (k = 12 ∨ k = 13)) ∨ (48 ≤ a ∧ a ≤ 77) ∨ (101 ≤ a ∧ a ≤ 109)
theorem hl_cg {k : Int} (h : m' 0 k = m 0 k) : hl m' k = hl m k := by
  unfold hl
  rw [h]
theorem CM_cg {h : Nat} (H : CM m h G) (e : ∀ k, m' (h + 14) k = m (h + 14) k) : CM m' h G := by
  intro s hs
  have : mby m' h s = mby m h s := by
    unfold mby
    rw [ldq (e _)]
  rw [this]
  exact H s hs
theorem NM_cg (H : NM m G) (e : ∀ k, m' 102 k = m 102 k) : NM m' G := by
  intro t i h1 h2 h3 h4
  rw [ldlq (e _)]
  exact H t i h1 h2 h3 h4
theorem HI_cg (H : HI m G) (e : ∀ a k, fHI a k → m' a k = m a k) : HI m' G := by
  obtain ⟨h1, h2, h3, h4, h5, h6, h7⟩ := H
  have e1 := hl_cg (e 0 12 (Or.inl ⟨rfl, Or.inl rfl⟩))
  have e2 := hl_cg (e 0 13 (Or.inl ⟨rfl, Or.inr rfl⟩))
  have p := isH_rng (hl_or m 12)
  refine ⟨h1, h2, by rw [e1, e2]; exact h3, ?_, ?_, RH_cg h6 (fun a k g1 g2 _ => ldq (e a k (Or.inr (Or.inr ⟨g1, g2⟩)))), NM_cg h7 (fun k => e _ k (Or.inr (Or.inr ⟨by decide, by decide⟩)))⟩
  · rw [e1]
    exact CH_cg h4 (fun a k z => ldq (e a k (Or.inr (Or.inl (by rcases z with rfl | ⟨z1, z2⟩ | ⟨rfl, z⟩ <;> omega)))))
  · rw [e1]
    exact CM_cg h5 (fun k => e _ k (Or.inr (Or.inl ⟨by omega, by omega⟩)))
/-- behind a look at the doors -/
theorem HI_fo (H : HI m G) (f : fo (hl m 12) m m') (M : CM m' (hl m 12) G) : HI m' G := by
  obtain ⟨h1, h2, h3, h4, h5, h6, h7⟩ := H
  have p := isH_rng (hl_or m 12)
  have e : ∀ a k, a < 48 ∨ 78 ≤ a → m' a k = m a k := fun a k g => by rw [fo_out (hl_or m 12) f g]
  have e1 := hl_cg (e 0 12 (Or.inl (by decide)))
  have e2 := hl_cg (e 0 13 (Or.inl (by decide)))
  refine ⟨h1, h2, by rw [e1, e2]; exact h3, by rw [e1]; exact fo_CH f h4, by rw [e1]; exact M, RH_cg h6 (fun a k g1 g2 _ => ldq (e a k (Or.inr (by omega)))), NM_cg h7 (fun k => e _ k (Or.inr (by decide)))⟩
end CG
/-- two calls, one behind the other, answer alike and what holds goes on holding -/
def okI (f g : xm → xr) : Prop := ∀ m, Inv m → ∃ r m1 r' m2, f m = some (r, m1) ∧ g m1 = some (r', m2) ∧ w32 r = w32 r' ∧ Inv m2
def okL (f g : xm → xr) : Prop := ∀ m, Inv m → ∃ r m1 r' m2, f m = some (r, m1) ∧ g m1 = some (r', m2) ∧ w64 r = w64 r' ∧ Inv m2
/-- neither call changes anything -/
theorem okI_same {f g : xm → xr} (h : ∀ m, Inv m → ∃ r r', f m = some (r, m) ∧ g m = some (r', m) ∧ w32 r = w32 r') : okI f g := by
  intro m hi
  obtain ⟨r, r', h1, h2, h3⟩ := h m hi
  exact ⟨r, m, r', m, h1, h2, h3, hi⟩
theorem Inv_of {m m' : xm} {P : Nat → Int → Prop} {G : hv} (e : ∀ a k, ¬ P a k → m' a k = m a k) (h1 : HI m' G) (h2 : SN m' G 22 110 0) (h3 : PS m' G) (h4 : TP m') (h5 : FA m') (h6 : RF m') (h7 : HE m' G) (h8 : JU m') (h9 : SL m') (h10 : IM m') (h11 : SE m') : Inv m' := ⟨G, h1, h2, h3, h4, h5, h6, h7, h8, h9, h10, h11⟩
