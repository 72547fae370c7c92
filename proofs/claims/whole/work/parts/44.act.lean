/-! as all is at a time, told apart from the cells: state, how many were played, what is kept -/
abbrev sn : Type := Int × Int × List Int
def okS (G : hv) (S : sn) : Prop := vs G S.1 ∧ (0 ≤ S.2.1 ∧ S.2.1 ≤ 9999) ∧ S.2.2.length ≤ 40 ∧ ∀ x ∈ S.2.2, 0 ≤ x ∧ x ≤ 160000 ∧ x / 2 % 8 ≤ 5 ∧ x / 16 ≤ 9999
def SC (m : xm) (a : Nat) (S : sn) : Prop := ld m a 0 = S.1 ∧ ld m a 1 = S.2.1 ∧ ld m a 2 = S.2.2.length ∧ ∀ i : Nat, i < S.2.2.length → ld m a (3 + (i : Int)) = S.2.2.getD i 0
def SR (m : xm) (G : hv) (b : Nat) (o : Int) (S : sn) : Prop := (∀ l, 0 ≤ l → l < nL G → ld m b (o + 1 + l) = wd G S.1 l) ∧ ld m b (o + 5) = jm G S.1 ∧ ld m b o = S.2.1 ∧ ld m b (o + 6) = S.2.2.length ∧
  ∀ i : Nat, i < S.2.2.length → ld m b (o + 7 + 3 * (i : Int)) = S.2.2.getD i 0 / 16 ∧ ld m b (o + 8 + 3 * (i : Int)) = S.2.2.getD i 0 / 2 % 8 ∧ ld m b (o + 9 + 3 * (i : Int)) = S.2.2.getD i 0 % 2
theorem getD_mem {L : List Int} {i : Nat} (h : i < L.length) : L.getD i 0 ∈ L := by
  rw [List.getD_eq_getElem?_getD, List.getElem?_eq_getElem h]
  exact List.getElem_mem h
theorem SN_of {m : xm} {G : hv} {a b : Nat} {o : Int} {S : sn} (h : okS G S) (c : SC m a S) (r : SR m G b o S) : SN m G a b o := by
  obtain ⟨c1, c2, c3, c4⟩ := c
  obtain ⟨r1, r2, r3, r4, r5⟩ := r
  obtain ⟨k1, k2, k3, k4⟩ := h
  unfold SN
  rw [c1, c2, c3, r3, r4]
  refine ⟨k1, r1, r2, ⟨rfl, k2⟩, ⟨rfl, by omega, by omega⟩, fun i g1 g2 => ?_⟩
  obtain ⟨n, rfl⟩ := Int.eq_ofNat_of_zero_le g1
  have hn : n < S.2.2.length := by omega
  obtain ⟨q1, q2, q3⟩ := r5 n hn
  have hx := k4 _ (getD_mem hn)
  rw [c4 n hn, q1, q2, q3]
  omega
theorem SN_to {m : xm} {G : hv} {a b : Nat} {o : Int} (h : SN m G a b o) : ∃ S, okS G S ∧ SC m a S ∧ SR m G b o S := by
  obtain ⟨h1, h2, h3, ⟨h4, h5, h6⟩, ⟨h7, h8, h9⟩, h10⟩ := h
  have hlen : ((List.range (ld m a 2).toNat).map (fun i : Nat => ld m a (3 + (i : Int)))).length = (ld m a 2).toNat := by rw [List.length_map, List.length_range]
  have hget : ∀ i : Nat, i < (ld m a 2).toNat → ((List.range (ld m a 2).toNat).map (fun i : Nat => ld m a (3 + (i : Int)))).getD i 0 = ld m a (3 + (i : Int)) := by
    intro i hi
    rw [List.getD_eq_getElem?_getD, List.getElem?_map, List.getElem?_range hi]
    rfl
  refine ⟨(ld m a 0, ld m a 1, (List.range (ld m a 2).toNat).map (fun i : Nat => ld m a (3 + (i : Int)))), ⟨h1, ⟨h5, h6⟩, by dsimp only; rw [hlen]; omega, fun x hx => ?_⟩, ⟨rfl, rfl, by dsimp only; rw [hlen]; omega, fun i hi => ?_⟩, h2, h3, h4.symm, by dsimp only; rw [hlen, ← h7]; omega, fun i hi => ?_⟩
  · obtain ⟨i, hi, rfl⟩ := List.mem_map.mp hx
    have hi2 := List.mem_range.mp hi
    have := h10 (i : Int) (by omega) (by omega)
    omega
  · dsimp only at hi ⊢
    rw [hlen] at hi
    rw [hget i hi]
  · dsimp only at hi ⊢
    rw [hlen] at hi
    rw [hget i hi]
    have := h10 (i : Int) (by omega) (by omega)
    omega
/-- one more is kept -/
def addK (L : List Int) (x : Int) : List Int := if L.length < 40 then L ++ [x] else L.drop 1 ++ [x]
theorem addK_len {L : List Int} {x : Int} (h : L.length ≤ 40) : (addK L x).length ≤ 40 ∧ (addK L x).length = if L.length < 40 then L.length + 1 else 40 := by
  unfold addK
  split
  · rw [List.length_append]
    exact ⟨by simp; omega, by simp⟩
  · rw [List.length_append, List.length_drop]
    simp
    omega
def kd (pl b a : Int) : Nat → List Int → List Int
  | 0, L => L
  | k + 1, L => if bt b k = bt a k then kd pl b a k L else addK (kd pl b a k L) (16 * pl + 2 * (k : Int) + bt a k)
theorem kd_ok {pl b a : Int} (h1 : 0 ≤ pl) (h2 : pl ≤ 9999) : ∀ (k : Nat) {L : List Int}, k ≤ 6 → L.length ≤ 40 → (∀ x ∈ L, 0 ≤ x ∧ x ≤ 160000 ∧ x / 2 % 8 ≤ 5 ∧ x / 16 ≤ 9999) → (kd pl b a k L).length ≤ 40 ∧ ∀ x ∈ kd pl b a k L, 0 ≤ x ∧ x ≤ 160000 ∧ x / 2 % 8 ≤ 5 ∧ x / 16 ≤ 9999
  | 0, L, _, hl, hx => ⟨hl, hx⟩
  | k + 1, L, hk, hl, hx => by
    obtain ⟨i1, i2⟩ := kd_ok h1 h2 (b := b) (a := a) k (L := L) (by omega) hl hx
    unfold kd
    split
    · exact ⟨i1, i2⟩
    · refine ⟨(addK_len i1).1, fun x hx => ?_⟩
      have hb := bt_01 a k
      unfold addK at hx
      have key : x ∈ kd pl b a k L ∨ x = 16 * pl + 2 * (k : Int) + bt a k := by
        split at hx
        · rcases List.mem_append.mp hx with h | h
          · exact Or.inl h
          · exact Or.inr (List.mem_singleton.mp h)
        · rcases List.mem_append.mp hx with h | h
          · exact Or.inl (List.mem_of_mem_drop h)
          · exact Or.inr (List.mem_singleton.mp h)
      rcases key with h | h
      · exact i2 x h
      · omega
/-- only the program's row of now was changed -/
def f22 (m m' : xm) : Prop := ∀ a k, a ≠ 22 → m' a k = m a k
theorem f22_refl {m : xm} : f22 m m := fun _ _ _ => rfl
theorem f22_trans {m1 m2 m3 : xm} (h1 : f22 m1 m2) (h2 : f22 m2 m3) : f22 m1 m3 := fun a k g => by rw [h2 a k g, h1 a k g]
theorem f22_st {m : xm} {k v : Int} : f22 m (st m 22 k v) := fun a j g => st_at (fun z => g z.1)
theorem cY_goTo_ok {m : xm} {v : Int} : cY_goTo v m = some (0, st m 22 0 v) := by
  unfold cY_goTo
  rw [setCell_in (by decide) (by rw [al22]; decide), bnd_some]
theorem SC_go {m : xm} {s pl v : Int} {L : List Int} (h : SC m 22 (s, pl, L)) (hv : rg v) : SC (st m 22 0 v) 22 (v, pl, L) := by
  obtain ⟨h1, h2, h3, h4⟩ := h
  refine ⟨by rw [ld_st_eq, w32_rg hv], by rw [ld_st_ne (by decide)]; exact h2, by rw [ld_st_ne (by decide)]; exact h3, fun i hi => by rw [ld_st_ne (by omega)]; exact h4 i hi⟩
theorem cY_countPlayed_ok {m : xm} {s pl : Int} {L : List Int} (h : SC m 22 (s, pl, L)) (h1 : 0 ≤ pl) (h2 : pl ≤ 9999) : ∃ m', cY_countPlayed m = some (0, m') ∧ f22 m m' ∧ SC m' 22 (s, (if pl < 9999 then pl + 1 else pl), L) := by
  obtain ⟨g1, g2, g3, g4⟩ := h
  have e : cY_countPlayed m = some (0, st m 22 1 (if pl < 9999 then pl + 1 else pl)) := by
    unfold cY_countPlayed j_minI
    dsimp only at g2
    rw [cY_played_ok, bnd_some, g2, w32_id (x := pl + 1) (by omega) (by omega), w32_id (x := 9999) (by decide) (by decide)]
    by_cases c : pl < 9999
    · rw [if_neg (by omega), bnd_some, setCell_in (by decide) (by rw [al22]; decide), bnd_some, if_pos c]
    · rw [if_pos (by omega), bnd_some, setCell_in (by decide) (by rw [al22]; decide), bnd_some, if_neg c, show pl = 9999 by omega]
  refine ⟨_, e, f22_st, by rw [ld_st_ne (by decide)]; exact g1, ?_, by rw [ld_st_ne (by decide)]; exact g3, fun i hi => by rw [ld_st_ne (by omega)]; exact g4 i hi⟩
  rw [ld_st_eq]
  dsimp only
  split
  · rw [w32_id (by omega) (by omega)]
  · rw [w32_id (by omega) (by omega)]
theorem getD_app {L : List Int} {x : Int} {i : Nat} : (L ++ [x]).getD i 0 = if i < L.length then L.getD i 0 else if i = L.length then x else 0 := by
  rw [List.getD_eq_getElem?_getD, List.getElem?_append]
  by_cases h : i < L.length
  · rw [if_pos h, if_pos h, List.getD_eq_getElem?_getD]
  · rw [if_neg h, if_neg h]
    by_cases h2 : i = L.length
    · rw [if_pos h2, h2, Nat.sub_self]
      rfl
    · rw [if_neg h2, List.getElem?_eq_none (by simp; omega)]
      rfl
theorem getD_drop {L : List Int} {i : Nat} : (L.drop 1).getD i 0 = L.getD (i + 1) 0 := by
  rw [List.getD_eq_getElem?_getD, List.getD_eq_getElem?_getD, List.getElem?_drop, Nat.add_comm]
theorem cY_keepOne_ok {m : xm} {s pl x : Int} {L : List Int} (h : SC m 22 (s, pl, L)) (hL : L.length ≤ 40) (hx : rg x) : ∃ m', cY_keepOne x m = some (0, m') ∧ f22 m m' ∧ SC m' 22 (s, pl, addK L x) := by
  obtain ⟨g1, g2, g3, g4⟩ := h
  dsimp only at g1 g2 g3 g4
  unfold cY_keepOne cY_keepOne_29
  rw [cY_keptCount_ok, bnd_some, w32_ld, g3]
  by_cases c : L.length < 40
  · have ea : addK L x = L ++ [x] := by unfold addK; rw [if_pos c]
    rw [if_pos (by omega), setCell_in (by omega) (by rw [al22]; omega), bnd_some, setCell_in (by decide) (by rw [al22]; decide), bnd_some, ea]
    refine ⟨_, rfl, f22_trans f22_st f22_st, ?_, ?_, ?_, fun i hi => ?_⟩
    · rw [ld_st_ne (by decide), ld_st_ne (by omega)]; exact g1
    · rw [ld_st_ne (by decide), ld_st_ne (by omega)]; exact g2
    · rw [ld_st_eq, w32_id (by omega) (by omega)]
      simp
    · dsimp only at hi ⊢
      rw [List.length_append, List.length_singleton] at hi
      rw [ld_st_ne (by omega), getD_app]
      by_cases hi2 : i < L.length
      · rw [if_pos hi2, ld_st_ne (by omega)]
        exact g4 i hi2
      · have : i = L.length := by omega
        rw [if_neg hi2, if_pos this, this, ld_st_eq, w32_rg hx]
  · have c40 : L.length = 40 := by omega
    have ea : addK L x = L.drop 1 ++ [x] := by unfold addK; rw [if_neg c]
    have hld : (L.drop 1).length = 39 := by rw [List.length_drop]; omega
    rw [if_neg (by omega), ea]
    unfold acp
    rw [w32_id (x := 4) (by decide) (by decide), w32_id (x := 3) (by decide) (by decide), w32_id (x := 39) (by decide) (by decide), al22, if_pos (by decide)]
    dsimp only
    rw [setCell_in (by decide) (by rw [al22]; decide), bnd_some, setCell_in (by decide) (by rw [al22]; decide), bnd_some]
    have hc : ∀ k, ld (cpy m 22 4 22 3 39) 22 k = if 3 ≤ k ∧ k < 42 then ld m 22 (k + 1) else ld m 22 k := by
      intro k
      unfold ld cpy
      by_cases q : 3 ≤ k ∧ k < 42
      · rw [if_pos ⟨rfl, q.1, by omega⟩, if_pos q, show 4 + (k - 3) = k + 1 by omega]
      · rw [if_neg (by omega), if_neg q]
    have hf : f22 m (cpy m 22 4 22 3 39) := fun a k g => by unfold cpy; rw [if_neg (fun z => g z.1)]
    refine ⟨_, rfl, f22_trans hf (f22_trans f22_st f22_st), ?_, ?_, ?_, fun i hi => ?_⟩
    · rw [ld_st_ne (by decide), ld_st_ne (by decide), hc, if_neg (by decide)]; exact g1
    · rw [ld_st_ne (by decide), ld_st_ne (by decide), hc, if_neg (by decide)]; exact g2
    · rw [ld_st_eq, w32_id (by decide) (by decide)]
      simp
      omega
    · dsimp only at hi ⊢
      rw [List.length_append, List.length_singleton, hld] at hi
      rw [ld_st_ne (by omega), getD_app, hld]
      by_cases hi2 : i < 39
      · rw [if_pos hi2, ld_st_ne (by omega), hc, if_pos (by omega), getD_drop, show 3 + (i : Int) + 1 = 3 + ((i + 1 : Nat) : Int) by omega]
        exact g4 (i + 1) (by omega)
      · have : i = 39 := by omega
        subst this
        rw [if_neg hi2, if_pos rfl, show 3 + ((39 : Nat) : Int) = 3 + 39 by rfl, ld_st_eq, w32_rg hx]
theorem bxo_bt0 : ∀ x : Nat, x < 64 → ∀ y : Nat, y < 64 → ∀ d : Nat, d < 6 → (ban (shr (bxo (x : Int) (y : Int)) (d : Int)) 1 = if bt x d = bt y d then 0 else 1) := by decide +kernel
theorem bxo_bt {x y d : Int} (h1 : 0 ≤ x) (h2 : x < 64) (h3 : 0 ≤ y) (h4 : y < 64) (h5 : 0 ≤ d) (h6 : d < 6) : ban (shr (bxo x y) d) 1 = if bt x d = bt y d then 0 else 1 := by
  obtain ⟨a, ha, rfl⟩ := nat2 (n := 64) h1 h2
  obtain ⟨b, hb, rfl⟩ := nat2 (n := 64) h3 h4
  obtain ⟨c, hc, rfl⟩ := nat2 (n := 6) h5 h6
  exact bxo_bt0 a ha b hb c hc
theorem cY_keepDoors_ok {s pl b a : Int} {L : List Int} (h1 : 0 ≤ pl) (h2 : pl ≤ 9999) (hb : 0 ≤ b) (hb2 : b < 64) (ha : 0 ≤ a) (ha2 : a < 64) (hL : L.length ≤ 40) (hx : ∀ x ∈ L, 0 ≤ x ∧ x ≤ 160000 ∧ x / 2 % 8 ≤ 5 ∧ x / 16 ≤ 9999) : ∀ (f k : Nat) {m : xm}, k ≤ 6 → 6 - k < f → SC m 22 (s, pl, kd pl b a k L) → ∃ m', cY_keepDoors_2 f b a (k : Int) m = some (0, m') ∧ f22 m m' ∧ SC m' 22 (s, pl, kd pl b a 6 L) := by
  intro f
  induction f with
  | zero => intro k m _ hf; omega
  | succ f ih =>
    intro k m hk hf hS
    rw [cY_keepDoors_2, w32_id (x := (k : Int)) (by omega) (by omega)]
    by_cases he : k = 6
    · subst he
      rw [if_pos (by decide)]
      exact ⟨m, rfl, f22_refl, hS⟩
    · have e40 : ∀ m, cY_keepDoors_40 (fun v1 v2 v3 m => cY_keepDoors_2 f v1 v2 v3 m) b a (k : Int) m = cY_keepDoors_2 f b a ((k + 1 : Nat) : Int) m := fun _ => rfl
      rw [if_neg (by omega), bxo_bt hb hb2 ha ha2 (by omega) (by omega)]
      by_cases c : bt b k = bt a k
      · rw [if_pos c, if_neg (by decide), e40]
        refine ih (k + 1) (by omega) (by omega) ?_
        unfold kd
        rw [if_pos c]
        exact hS
      · have hkd := kd_ok h1 h2 (b := b) (a := a) k (L := L) (by omega) hL hx
        have hbt := bt_01 a k
        have hpl : ld m 22 1 = pl := hS.2.1
        rw [if_neg c, if_pos rfl, cY_played_ok, bnd_some, hpl, bt_shr ha (by omega) (by omega) (by omega)]
        obtain ⟨m1, e1, e2, e3⟩ := cY_keepOne_ok hS hkd.1 (x := 16 * pl + 2 * (k : Int) + bt a k) ⟨by omega, by omega⟩
        rw [e1, bnd_some, e40]
        obtain ⟨m2, g1, g2, g3⟩ := ih (k + 1) (m := m1) (by omega) (by omega) (by
          unfold kd
          rw [if_neg c]
          exact e3)
        exact ⟨m2, g1, f22_trans e2 g2, g3⟩
/-- a note or a rest is played -/
def plS (G : hv) (n : Int) (S : sn) : sn := (ag G n S.1, (if S.2.1 < 9999 then S.2.1 + 1 else S.2.1), kd (if S.2.1 < 9999 then S.2.1 + 1 else S.2.1) (od G S.1) (od G (ag G n S.1)) 6 S.2.2)
theorem okS_pl {G : hv} (w : wfG G) {n : Int} {S : sn} (h : okS G S) : okS G (plS G n S) := by
  obtain ⟨h1, h2, h3, h4⟩ := h
  have hp : 0 ≤ (if S.2.1 < 9999 then S.2.1 + 1 else S.2.1) ∧ (if S.2.1 < 9999 then S.2.1 + 1 else S.2.1) ≤ 9999 := by split <;> omega
  have := kd_ok hp.1 hp.2 (b := od G S.1) (a := od G (ag G n S.1)) 6 (by decide) h3 h4
  exact ⟨vs_ag w.1 h1, hp, this.1, this.2⟩
/-- the program's cells of now and of looks at the doors alone were changed -/
def fC (h : Nat) (m m' : xm) : Prop := ∀ a k, a ≠ 22 → ¬ (a = h + 1 ∧ k = 3) → a ≠ h + 3 → a ≠ h + 14 → m' a k = m a k
theorem fC_fo {h : Nat} {m m' : xm} (f : fo h m m') : fC h m m' := fun a k _ g1 g2 g3 => f a k g1 g2 g3
theorem fC_22 {h : Nat} {m m' : xm} (f : f22 m m') : fC h m m' := fun a k g _ _ _ => f a k g
theorem fC_trans {h : Nat} {m1 m2 m3 : xm} (h1 : fC h m1 m2) (h2 : fC h m2 m3) : fC h m1 m3 := fun a k g1 g2 g3 g4 => by rw [h2 a k g1 g2 g3 g4, h1 a k g1 g2 g3 g4]
theorem fC_refl {h : Nat} {m : xm} : fC h m m := fun _ _ _ _ _ _ => rfl
theorem fC_out {h : Nat} {m m' : xm} (p : isH h) (f : fC h m m') {a : Nat} (ha : a < 48 ∨ 78 ≤ a) (h22 : a ≠ 22) : m' a = m a := by
  have := isH_rng p
  funext k
  exact f a k h22 (by omega) (by omega) (by omega)
theorem fC_CH {h : Nat} {m m' : xm} {G : hv} (p : isH h) (f : fC h m m') (H : CH m h G) : CH m' h G := by
  have := isH_rng p
  exact CH_cg H (fun a k z => ldq (f a k (by rcases z with rfl | ⟨z1, z2⟩ | ⟨rfl, z⟩ <;> omega) (by rcases z with rfl | ⟨z1, z2⟩ | ⟨rfl, z⟩ <;> omega) (by rcases z with rfl | ⟨z1, z2⟩ | ⟨rfl, z⟩ <;> omega) (by rcases z with rfl | ⟨z1, z2⟩ | ⟨rfl, z⟩ <;> omega)))
theorem f22_CM {h : Nat} {m m' : xm} {G : hv} (p : isH h) (f : f22 m m') (M : CM m h G) : CM m' h G := by
  have := isH_rng p
  exact CM_cg M (fun k => f _ k (by omega))
theorem SC_fo {h : Nat} {m m' : xm} {S : sn} (p : isH h) (f : fo h m m') (c : SC m 22 S) : SC m' 22 S := by
  have e : ∀ k, ld m' 22 k = ld m 22 k := fun k => ldq (by rw [fo_out p f (by decide)])
  unfold SC
  simp only [e]
  exact c
theorem cL_playOne_ok {m : xm} {h : Nat} {G : hv} (hh : hl m 12 = h) (p : isH h) (w : wfG G) (hD : wfD G) (H : CH m h G) (M : CM m h G) {S : sn} (hS : okS G S) (c : SC m 22 S) {n : Int} (hn : n = 6 ∨ (0 ≤ n ∧ n < nN G)) : ∃ m', cL_playOne n m = some (0, m') ∧ fC h m m' ∧ CM m' h G ∧ SC m' 22 (plS G n S) := by
  obtain ⟨s, pl, L⟩ := S
  obtain ⟨k1, k2, k3, k4⟩ := hS
  dsimp only at k1 k2 k3 k4
  have hs : ld m 22 0 = s := c.1
  have hva := vs_ag w.1 (n := n) k1
  have ra := vs_s w.1 hva
  unfold cL_playOne
  rw [cY_state_ok, bnd_some, hs, hh, cH_after_ag p w H k1 hn, bnd_some, cY_goTo_ok, bnd_some]
  have c1 := SC_go c (v := ag G n s) ⟨by omega, by omega⟩
  obtain ⟨m1, e1, e2, e3⟩ := cY_countPlayed_ok c1 k2.1 k2.2
  have f1 : f22 m m1 := f22_trans f22_st e2
  have hh1 : hl m1 12 = h := by rw [hl_cg (f1 0 12 (by decide)), hh]
  have H1 := fC_CH p (fC_22 f1) H
  have M1 := f22_CM p f1 M
  rw [e1, bnd_some, hh1]
  obtain ⟨m2, g1, g2, g3⟩ := cH_openDoors_ok p w hD k1 H1 M1
  have c2 := SC_fo p g2 e3
  have hh2 : hl m2 12 = h := by rw [hl_cg (by rw [fo_out p g2 (by decide)]), hh1]
  obtain ⟨m3, q1, q2, q3⟩ := cH_openDoors_ok p w hD hva (fo_CH g2 H1) g3
  have c3 := SC_fo p q2 c2
  have hs2 : ld m2 22 0 = ag G n s := c2.1
  rw [g1, bnd_some, cY_state_ok, bnd_some, hs2, hh2, q1, bnd_some]
  have o1 := od_rng w hD s
  have o2 := od_rng w hD (ag G n s)
  have hp : 0 ≤ (if pl < 9999 then pl + 1 else pl) ∧ (if pl < 9999 then pl + 1 else pl) ≤ 9999 := by split <;> omega
  obtain ⟨m4, z1, z2, z3⟩ := cY_keepDoors_ok hp.1 hp.2 o1.1 o1.2 o2.1 o2.2 k3 k4 xLF 0 (m := m3) (by decide) (by rw [xLF_eq]; decide) c3
  have z1' : cY_keepDoors (od G s) (od G (ag G n s)) m3 = some (0, m4) := z1
  rw [z1', bnd_some]
  exact ⟨m4, rfl, fC_trans (fC_22 f1) (fC_trans (fC_fo g2) (fC_trans (fC_fo q2) (fC_22 z2))), f22_CM p z2 q3, z3⟩
