/-! a hall's picture grows: what holds of it -/
def aNm (G : hv) (t : Int) (L : List Int) : hv := st (st G 9 (6 * t + G 0 t) (n32 L)) 0 t (G 0 t + 1)
def aLk (G : hv) (L : List Int) (w a j : Int) : hv := st (st (st (aNm G 0 L) 1 (nL G) w) 2 (nL G) a) 3 (nL G) j
def aTn (G : hv) (n l v : Int) : hv := st G 4 (4 * n + l) v
def aPy (G : hv) (p v : Int) : hv := st G 5 p v
def aDr (G : hv) (L C : List Int) (z : Int) : hv := fun b j => if b = 8 ∧ z ≤ j ∧ j < z + (C.length : Int) then C.getD (j - z).toNat 0 else st (st (aNm G 2 L) 6 (nD G) z) 7 (nD G) (z + (C.length : Int)) b j
theorem st_eq {G : hv} {a : Nat} {k v : Int} : st G a k v a k = v := by
  unfold st
  rw [if_pos ⟨rfl, rfl⟩]
/-- as the reader builds it -/
def GI (G : hv) (z : Int) : Prop := wfG G ∧ wfD G ∧ (∀ d, 0 ≤ d → d < nD G → G 7 d ≤ z) ∧ (0 ≤ z ∧ z ≤ 1600) ∧ ∀ p, nP G ≤ p → p < 5 → G 5 p = 0
section CGG
variable {G G' : hv}
theorem wx_cg (h0 : G' 0 0 = G 0 0) (h1 : ∀ l, G' 1 l = G 1 l) (l : Int) : wx G' l = wx G l := by
  unfold wx nL
  rw [h0, h1]
theorem pl_cg (h0 : G' 0 0 = G 0 0) (h1 : ∀ l, G' 1 l = G 1 l) (l : Int) : pl G' l = pl G l := by
  unfold pl
  rw [wx_cg h0 h1, wx_cg h0 h1, wx_cg h0 h1]
theorem wy_cg (h0 : G' 0 0 = G 0 0) (h1 : ∀ l, G' 1 l = G 1 l) : wy G' = wy G := by
  unfold wy
  rw [wx_cg h0 h1, wx_cg h0 h1, wx_cg h0 h1, wx_cg h0 h1]
theorem fs_cg (h0 : G' 0 0 = G 0 0) (h1 : ∀ l, G' 1 l = G 1 l) (h2 : ∀ l, G' 2 l = G 2 l) : fs G' = fs G := by
  unfold fs mkS nL
  rw [wx_cg h0 h1, wx_cg h0 h1, wx_cg h0 h1, wx_cg h0 h1, h0]
  simp only [h2]
theorem nk_cg {n : Int} (h : ∀ l, 0 ≤ l → l < 4 → tT G' n l = tT G n l) : nk G' n = nk G n := by
  unfold nk
  rw [h 0 (by decide) (by decide), h 1 (by decide) (by decide), h 2 (by decide) (by decide), h 3 (by decide) (by decide)]
theorem wfS_cg (w : wfS G) (h0 : G' 0 0 = G 0 0) (h1 : ∀ l, G' 1 l = G 1 l) : wfS G' := by
  unfold wfS nL at *
  rw [h0]
  exact ⟨w.1, w.2.1, fun l a b => by rw [h1]; exact w.2.2 l a b⟩
/-- where none of the locks changes -/
theorem wfG_cg (w : wfG G) (h0 : G' 0 0 = G 0 0) (h1 : ∀ l, G' 1 l = G 1 l) (h2 : ∀ l, G' 2 l = G 2 l) (h3 : ∀ l, G' 3 l = G 3 l) (hN : 0 ≤ G' 0 1 ∧ G' 0 1 ≤ 6) (hD : 0 ≤ G' 0 2 ∧ G' 0 2 ≤ 6) (hP : 0 ≤ G' 0 3 ∧ G' 0 3 ≤ 5) (hR : 0 ≤ G' 0 4 ∧ G' 0 4 ≤ 100) (h4 : ∀ n l, 0 ≤ n → n < 6 → 0 ≤ l → l < 4 → 0 ≤ tT G' n l ∧ tT G' n l ≤ 4 ∧ (G' 0 1 ≤ n ∨ G 0 0 ≤ l → tT G' n l = 0)) (hNL : 0 < G' 0 1 → 0 < G 0 0) (h5 : ∀ p, 0 ≤ p → p < 5 → 0 ≤ G' 5 p ∧ G' 5 p < 64) : wfG G' := by
  refine ⟨wfS_cg w.1 h0 h1, hN, hD, hP, hR, fun l a b => ?_, fun n l a b c d => ?_, fun z => ?_, h5⟩
  · unfold nL at b
    rw [h0] at b
    rw [h1, h2, h3]
    exact w.2.2.2.2.2.1 l a b
  · unfold nN nL
    rw [h0]
    exact h4 n l a b c d
  · unfold nL
    rw [h0]
    exact hNL z
theorem wfD_cg (w : wfD G) (hD : G' 0 2 = G 0 2) (h6 : ∀ d, G' 6 d = G 6 d) (h7 : ∀ d, G' 7 d = G 7 d) (h8 : ∀ k, G' 8 k = G 8 k) : wfD G' := by
  have e : ∀ d, seg G' d = seg G d := by
    intro d
    unfold seg
    rw [h6, h7, show G' 8 = G 8 from funext h8]
  intro d a b
  unfold nD at b
  rw [hD] at b
  rw [h6, h7, e]
  exact w d a b
end CGG
section AUP
variable {G : hv} {z : Int}
theorem aNm_0 {t : Int} {L : List Int} {k : Int} : aNm G t L 0 k = if k = t then G 0 t + 1 else G 0 k := by
  unfold aNm
  by_cases c : k = t
  · rw [if_pos c, c, st_eq]
  · rw [if_neg c, st_at (by omega), st_at (by omega)]
theorem aNm_9 {t : Int} {L : List Int} {k : Int} : aNm G t L 9 k = if k = 6 * t + G 0 t then n32 L else G 9 k := by
  unfold aNm
  rw [st_at (by omega)]
  by_cases c : k = 6 * t + G 0 t
  · rw [if_pos c, c, st_eq]
  · rw [if_neg c, st_at (by omega)]
theorem aNm_x {t : Int} {L : List Int} {a : Nat} {k : Int} (h0 : a ≠ 0) (h9 : a ≠ 9) : aNm G t L a k = G a k := by
  unfold aNm
  rw [st_at (fun y => h0 y.1), st_at (fun y => h9 y.1)]
/-- a new note, that turns nothing yet -/
theorem GI_note (I : GI G z) {L : List Int} (hn : nN G < 6) (hl : 0 < nL G) : GI (aNm G 1 L) z := by
  obtain ⟨w, wd, h7, hz, h5⟩ := I
  have e0 : ∀ k, k ≠ 1 → aNm G 1 L 0 k = G 0 k := fun k g => by rw [aNm_0, if_neg g]
  have e1 : aNm G 1 L 0 1 = G 0 1 + 1 := by rw [aNm_0, if_pos rfl]
  have wN := w.2.1
  unfold nN at hn wN
  refine ⟨wfG_cg w (e0 0 (by decide)) (fun l => aNm_x (by decide) (by decide)) (fun l => aNm_x (by decide) (by decide)) (fun l => aNm_x (by decide) (by decide)) (by rw [e1]; omega) (by rw [e0 2 (by decide)]; exact w.2.2.1) (by rw [e0 3 (by decide)]; exact w.2.2.2.1) (by rw [e0 4 (by decide)]; exact w.2.2.2.2.1) (fun n l a b c d => ?_) (fun _ => hl) (fun p a b => by rw [aNm_x (by decide) (by decide)]; exact w.2.2.2.2.2.2.2.2 p a b), wfD_cg wd (e0 2 (by decide)) (fun d => aNm_x (by decide) (by decide)) (fun d => aNm_x (by decide) (by decide)) (fun k => aNm_x (by decide) (by decide)), ?_, hz, ?_⟩
  · have t := w.2.2.2.2.2.2.1 n l a b c d
    unfold tT at *
    rw [aNm_x (by decide) (by decide), e1]
    exact ⟨t.1, t.2.1, fun g => t.2.2 (by unfold nN nL; omega)⟩
  · intro d a b
    unfold nD at b
    rw [e0 2 (by decide)] at b
    rw [aNm_x (by decide) (by decide)]
    exact h7 d a b
  · intro p a b
    unfold nP at a
    rw [e0 3 (by decide)] at a
    rw [aNm_x (by decide) (by decide)]
    exact h5 p a b
/-- the newest note turns a lock -/
theorem GI_turn (I : GI G z) {n l v : Int} (hn0 : 0 ≤ n) (hn : n < nN G) (hl0 : 0 ≤ l) (hl : l < nL G) (hv1 : 0 ≤ v) (hv2 : v ≤ 4) : GI (aTn G n l v) z := by
  obtain ⟨w, wd, h7, hz, h5⟩ := I
  have wN := w.2.1
  have wL := w.1.2.1
  have ex : ∀ (a : Nat) (k : Int), a ≠ 4 → aTn G n l v a k = G a k := fun a k g => by unfold aTn; rw [st_at (fun y => g y.1)]
  refine ⟨wfG_cg w (ex 0 0 (by decide)) (fun l => ex 1 l (by decide)) (fun l => ex 2 l (by decide)) (fun l => ex 3 l (by decide)) (by rw [ex 0 1 (by decide)]; exact w.2.1) (by rw [ex 0 2 (by decide)]; exact w.2.2.1) (by rw [ex 0 3 (by decide)]; exact w.2.2.2.1) (by rw [ex 0 4 (by decide)]; exact w.2.2.2.2.1) (fun n' l' a b c d => ?_) (by rw [ex 0 1 (by decide)]; exact w.2.2.2.2.2.2.2.1) (fun p a b => by rw [ex 5 p (by decide)]; exact w.2.2.2.2.2.2.2.2 p a b), wfD_cg wd (ex 0 2 (by decide)) (fun d => ex 6 d (by decide)) (fun d => ex 7 d (by decide)) (fun k => ex 8 k (by decide)), ?_, hz, ?_⟩
  · have t := w.2.2.2.2.2.2.1 n' l' a b c d
    rw [ex 0 1 (by decide)]
    unfold nN nL at *
    unfold tT aTn at *
    by_cases g : 4 * n' + l' = 4 * n + l
    · rw [g, st_eq]
      exact ⟨hv1, hv2, fun y => by omega⟩
    · rw [st_at (fun y => g y.2)]
      exact t
  · intro d a b
    unfold nD at b
    rw [ex 0 2 (by decide)] at b
    rw [ex 7 d (by decide)]
    exact h7 d a b
  · intro p a b
    unfold nP at a
    rw [ex 0 3 (by decide)] at a
    rw [ex 5 p (by decide)]
    exact h5 p a b
/-- a new player, with no notes yet -/
theorem GI_player (I : GI G z) {L : List Int} (hn : nP G < 5) : GI (aNm G 3 L) z := by
  obtain ⟨w, wd, h7, hz, h5⟩ := I
  have e0 : ∀ k, k ≠ 3 → aNm G 3 L 0 k = G 0 k := fun k g => by rw [aNm_0, if_neg g]
  have e1 : aNm G 3 L 0 3 = G 0 3 + 1 := by rw [aNm_0, if_pos rfl]
  have wN := w.2.2.2.1
  unfold nP at hn wN
  refine ⟨wfG_cg w (e0 0 (by decide)) (fun l => aNm_x (by decide) (by decide)) (fun l => aNm_x (by decide) (by decide)) (fun l => aNm_x (by decide) (by decide)) (by rw [e0 1 (by decide)]; exact w.2.1) (by rw [e0 2 (by decide)]; exact w.2.2.1) (by rw [e1]; omega) (by rw [e0 4 (by decide)]; exact w.2.2.2.2.1) (fun n l a b c d => ?_) (by rw [e0 1 (by decide)]; exact w.2.2.2.2.2.2.2.1) (fun p a b => by rw [aNm_x (by decide) (by decide)]; exact w.2.2.2.2.2.2.2.2 p a b), wfD_cg wd (e0 2 (by decide)) (fun d => aNm_x (by decide) (by decide)) (fun d => aNm_x (by decide) (by decide)) (fun k => aNm_x (by decide) (by decide)), ?_, hz, ?_⟩
  · have t := w.2.2.2.2.2.2.1 n l a b c d
    unfold tT at *
    rw [aNm_x (by decide) (by decide), e0 1 (by decide)]
    exact t
  · intro d a b
    unfold nD at b
    rw [e0 2 (by decide)] at b
    rw [aNm_x (by decide) (by decide)]
    exact h7 d a b
  · intro p a b
    unfold nP at a
    rw [e1] at a
    rw [aNm_x (by decide) (by decide)]
    exact h5 p (by unfold nP; omega) b
theorem GI_plays (I : GI G z) {p v : Int} (hp0 : 0 ≤ p) (hp : p < nP G) (hv1 : 0 ≤ v) (hv2 : v < 64) : GI (aPy G p v) z := by
  obtain ⟨w, wd, h7, hz, h5⟩ := I
  have ex : ∀ (a : Nat) (k : Int), a ≠ 5 → aPy G p v a k = G a k := fun a k g => by unfold aPy; rw [st_at (fun y => g y.1)]
  refine ⟨wfG_cg w (ex 0 0 (by decide)) (fun l => ex 1 l (by decide)) (fun l => ex 2 l (by decide)) (fun l => ex 3 l (by decide)) (by rw [ex 0 1 (by decide)]; exact w.2.1) (by rw [ex 0 2 (by decide)]; exact w.2.2.1) (by rw [ex 0 3 (by decide)]; exact w.2.2.2.1) (by rw [ex 0 4 (by decide)]; exact w.2.2.2.2.1) (fun n l a b c d => ?_) (by rw [ex 0 1 (by decide)]; exact w.2.2.2.2.2.2.2.1) (fun q a b => ?_), wfD_cg wd (ex 0 2 (by decide)) (fun d => ex 6 d (by decide)) (fun d => ex 7 d (by decide)) (fun k => ex 8 k (by decide)), ?_, hz, ?_⟩
  · have t := w.2.2.2.2.2.2.1 n l a b c d
    unfold tT at *
    rw [ex 4 _ (by decide), ex 0 1 (by decide)]
    exact t
  · unfold aPy
    by_cases g : q = p
    · rw [g, st_eq]
      exact ⟨hv1, hv2⟩
    · rw [st_at (fun y => g y.2)]
      exact w.2.2.2.2.2.2.2.2 q a b
  · intro d a b
    unfold nD at b
    rw [ex 0 2 (by decide)] at b
    rw [ex 7 d (by decide)]
    exact h7 d a b
  · intro q a b
    unfold nP at a hp
    rw [ex 0 3 (by decide)] at a
    unfold aPy
    rw [st_at (fun y => by omega)]
    exact h5 q a b
theorem GI_rust (I : GI G z) {v : Int} (h1 : 0 ≤ v) (h2 : v ≤ 100) : GI (st G 0 4 v) z := by
  obtain ⟨w, wd, h7, hz, h5⟩ := I
  have ex : ∀ (a : Nat) (k : Int), ¬ (a = 0 ∧ k = 4) → st G 0 4 v a k = G a k := fun a k g => st_at g
  refine ⟨wfG_cg w (ex 0 0 (by decide)) (fun l => ex 1 l (by omega)) (fun l => ex 2 l (by omega)) (fun l => ex 3 l (by omega)) (by rw [ex 0 1 (by decide)]; exact w.2.1) (by rw [ex 0 2 (by decide)]; exact w.2.2.1) (by rw [ex 0 3 (by decide)]; exact w.2.2.2.1) (by rw [st_eq]; exact ⟨h1, h2⟩) (fun n l a b c d => ?_) (by rw [ex 0 1 (by decide)]; exact w.2.2.2.2.2.2.2.1) (fun q a b => by rw [ex 5 q (by omega)]; exact w.2.2.2.2.2.2.2.2 q a b), wfD_cg wd (ex 0 2 (by decide)) (fun d => ex 6 d (by omega)) (fun d => ex 7 d (by omega)) (fun k => ex 8 k (by omega)), ?_, hz, ?_⟩
  · have t := w.2.2.2.2.2.2.1 n l a b c d
    unfold tT at *
    rw [ex 4 _ (by omega), ex 0 1 (by decide)]
    exact t
  · intro d a b
    unfold nD at b
    rw [ex 0 2 (by decide)] at b
    rw [ex 7 d (by omega)]
    exact h7 d a b
  · intro p a b
    unfold nP at a
    rw [ex 0 3 (by decide)] at a
    rw [ex 5 p (by omega)]
    exact h5 p a b
theorem aDr_x {L C : List Int} {a : Nat} {k : Int} (h : a ≠ 0 ∧ a ≠ 6 ∧ a ≠ 7 ∧ a ≠ 8 ∧ a ≠ 9) : aDr G L C z a k = G a k := by
  unfold aDr
  rw [if_neg (fun y => h.2.2.2.1 y.1), st_at (fun y => h.2.2.1 y.1), st_at (fun y => h.2.1 y.1), aNm_x h.1 h.2.2.2.2]
theorem aDr_0 {L C : List Int} {k : Int} : aDr G L C z 0 k = if k = 2 then G 0 2 + 1 else G 0 k := by
  unfold aDr
  rw [if_neg (by omega), st_at (by omega), st_at (by omega), aNm_0]
theorem aDr_9 {L C : List Int} {k : Int} : aDr G L C z 9 k = if k = 12 + G 0 2 then n32 L else G 9 k := by
  unfold aDr
  rw [if_neg (by omega), st_at (by omega), st_at (by omega), aNm_9]
  rfl
theorem aDr_6 {L C : List Int} {k : Int} : aDr G L C z 6 k = if k = nD G then z else G 6 k := by
  unfold aDr
  rw [if_neg (by omega), st_at (by omega)]
  by_cases c : k = nD G
  · rw [if_pos c, c, st_eq]
  · rw [if_neg c, st_at (fun y => c y.2), aNm_x (by decide) (by decide)]
theorem aDr_7 {L C : List Int} {k : Int} : aDr G L C z 7 k = if k = nD G then z + (C.length : Int) else G 7 k := by
  unfold aDr
  rw [if_neg (by omega)]
  by_cases c : k = nD G
  · rw [if_pos c, c, st_eq]
  · rw [if_neg c, st_at (fun y => c y.2), st_at (by omega), aNm_x (by decide) (by decide)]
theorem aDr_8 {L C : List Int} {k : Int} : aDr G L C z 8 k = if z ≤ k ∧ k < z + (C.length : Int) then C.getD (k - z).toNat 0 else G 8 k := by
  unfold aDr
  by_cases c : z ≤ k ∧ k < z + (C.length : Int)
  · rw [if_pos ⟨rfl, c⟩, if_pos c]
  · rw [if_neg (fun y => c y.2), if_neg c, st_at (by omega), st_at (by omega), aNm_x (by decide) (by decide)]
theorem sgm_cg {C D : Int → Int} {a b : Int} (h : ∀ k, a ≤ k → k < b → C k = D k) : sgm C a b = sgm D a b := by
  unfold sgm
  apply List.map_congr_left
  intro i hi
  have := List.mem_range.mp hi
  exact h _ (by omega) (by omega)
theorem sgm_off (C : List Int) (z : Int) : sgm (fun k => C.getD (k - z).toNat 0) z (z + (C.length : Int)) = C := by
  unfold sgm
  apply List.ext_getElem?
  intro i
  rw [List.getElem?_map]
  by_cases h : i < C.length
  · rw [List.getElem?_range (by omega), Option.map_some, List.getElem?_eq_getElem h]
    dsimp only
    rw [show z + (i : Int) - z = (i : Int) by omega, Int.toNat_natCast, List.getD_eq_getElem?_getD, List.getElem?_eq_getElem h]
    rfl
  · rw [List.getElem?_eq_none (by rw [List.length_range]; omega), Option.map_none, List.getElem?_eq_none (by omega)]
theorem GI_door (I : GI G z) {L C : List Int} (hd : nD G < 6) (hC : z + (C.length : Int) ≤ 1600) (ht : tyl false C [] = some [true]) : GI (aDr G L C z) (z + (C.length : Int)) := by
  obtain ⟨w, wD, h7, hz, h5⟩ := I
  have e0 : ∀ k, k ≠ 2 → aDr G L C z 0 k = G 0 k := fun k g => by rw [aDr_0, if_neg g]
  have e1 : aDr G L C z 0 2 = G 0 2 + 1 := by rw [aDr_0, if_pos rfl]
  have ex : ∀ (a : Nat) (k : Int), a ≠ 0 ∧ a ≠ 6 ∧ a ≠ 7 ∧ a ≠ 8 ∧ a ≠ 9 → aDr G L C z a k = G a k := fun a k g => aDr_x g
  have wN := w.2.2.1
  refine ⟨wfG_cg w (e0 0 (by decide)) (fun l => ex 1 l (by decide)) (fun l => ex 2 l (by decide)) (fun l => ex 3 l (by decide)) (by rw [e0 1 (by decide)]; exact w.2.1) (by rw [e1]; unfold nD at hd wN; omega) (by rw [e0 3 (by decide)]; exact w.2.2.2.1) (by rw [e0 4 (by decide)]; exact w.2.2.2.2.1) (fun n l a b c d => ?_) (by rw [e0 1 (by decide)]; exact w.2.2.2.2.2.2.2.1) (fun q a b => by rw [ex 5 q (by decide)]; exact w.2.2.2.2.2.2.2.2 q a b), ?_, ?_, ?_, ?_⟩
  · have t := w.2.2.2.2.2.2.1 n l a b c d
    unfold tT at *
    rw [ex 4 _ (by decide), e0 1 (by decide)]
    exact t
  · intro d a b
    have b' : d < nD G + 1 := by unfold nD at *; rw [e1] at b; exact b
    unfold seg
    rw [aDr_6, aDr_7]
    by_cases g : d = nD G
    · rw [if_pos g, if_pos g, sgm_cg (D := fun k => C.getD (k - z).toNat 0) (fun k y1 y2 => by rw [aDr_8, if_pos ⟨y1, y2⟩]), sgm_off]
      exact ⟨hz.1, by omega, hC, ht⟩
    · have q := wD d a (by omega)
      have q7 := h7 d a (by omega)
      rw [if_neg g, if_neg g, sgm_cg (D := G 8) (fun k y1 y2 => by rw [aDr_8, if_neg (by omega)])]
      exact q
  · intro d a b
    have b' : d < nD G + 1 := by unfold nD at *; rw [e1] at b; exact b
    rw [aDr_7]
    by_cases g : d = nD G
    · rw [if_pos g]; omega
    · rw [if_neg g]
      have q7 := h7 d a (by omega)
      omega
  · omega
  · intro p a b
    unfold nP at a
    rw [e0 3 (by decide)] at a
    rw [ex 5 p (by decide)]
    exact h5 p a b
end AUP
