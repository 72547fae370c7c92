/-! looks at the doors; more calls that only tell; the tape -/
def IG (m : xm) (G : hv) : Prop := HI m G ∧ SN m G 22 110 0 ∧ PS m G ∧ TP m ∧ FA m ∧ RF m ∧ HE m G ∧ JU m ∧ SL m ∧ IM m ∧ SE m
/-- cells that are nobody's between the calls -/
def scr (a : Nat) (k : Int) : Prop := (a = 3 ∧ k < 4) ∨ (4 ≤ a ∧ a ≤ 17) ∨ (111 ≤ a ∧ a ≤ 116) ∨ (138 ≤ a ∧ a ≤ 140) ∨ (a = 78 ∧ (2 ≤ k ∧ k ≤ 6 ∨ 9 ≤ k ∧ k ≤ 46 ∨ 51 ≤ k ∧ k ≤ 55 ∨ 64 ≤ k ∧ k ≤ 93))
theorem IG_scr {m m' : xm} {G : hv} (H : IG m G) (e : ∀ a k, ¬ scr a k → m' a k = m a k) : IG m' G := by
  obtain ⟨h1, h2, h3, h4, h5, h6, h7, h8, h9, h10, h11⟩ := H
  refine ⟨HI_cg h1 (fun a k z => e a k ?_), SN_cg h2 (fun k => e 22 k ?_) (fun k => e 110 k ?_), PS_cg h3 (fun a k z => e a k ?_), TP_cg h4 (fun a k z => e a k ?_), FA_cg h5 (fun a k z => e a k ?_), RF_cg h6 (fun a k z => e a k ?_), HE_cg h7 (fun a k z => e a k ?_), JU_cg h8 (fun a k z => e a k ?_), SL_cg h9 (fun a k z => e a k ?_), IM_cg h10 (fun a k z => e a k ?_), SE_cg h11 (fun a k z => e a k ?_)⟩
  · unfold fHI at z; unfold scr; omega
  · unfold scr; omega
  · unfold scr; omega
  · unfold fPS at z; unfold scr; omega
  · unfold fTP at z; unfold scr; omega
  · unfold fFA at z; unfold scr; omega
  · unfold fRF at z; unfold scr; omega
  · unfold fHE at z; unfold scr; omega
  · unfold fJU at z; unfold scr; omega
  · unfold fSL at z; unfold scr; omega
  · unfold fIM at z; unfold scr; omega
  · unfold fSE at z; unfold scr; omega
theorem IG_fq {m m' : xm} {G : hv} (H : IG m G) (f : fq m m') : IG m' G := IG_scr H (fun a k z => f a k (fun y => z (by unfold scr; omega)) (fun y => z (by unfold scr; omega)))
theorem IG_fo {m m' : xm} {G : hv} (H : IG m G) (f : fo (hl m 12) m m') (M : CM m' (hl m 12) G) : IG m' G := by
  obtain ⟨h1, h2, h3, h4, h5, h6, h7, h8, h9, h10, h11⟩ := H
  have e : ∀ a k, a < 48 ∨ 78 ≤ a → m' a k = m a k := fun a k g => by rw [fo_out (hl_or m 12) f g]
  refine ⟨HI_fo h1 f M, SN_cg h2 (fun k => e 22 k (by decide)) (fun k => e 110 k (by decide)), PS_cg h3 (fun a k z => e a k ?_), TP_cg h4 (fun a k z => e a k ?_), FA_cg h5 (fun a k z => e a k ?_), RF_cg h6 (fun a k z => e a k ?_), HE_cg h7 (fun a k z => e a k ?_), JU_cg h8 (fun a k z => e a k ?_), SL_cg h9 (fun a k z => e a k ?_), IM_cg h10 (fun a k z => e a k ?_), SE_cg h11 (fun a k z => e a k ?_)⟩
  · unfold fPS at z; omega
  · unfold fTP at z; omega
  · unfold fFA at z; omega
  · unfold fRF at z; omega
  · unfold fHE at z; omega
  · unfold fJU at z; omega
  · unfold fSL at z; omega
  · unfold fIM at z; omega
  · unfold fSE at z; omega
theorem IG_od {m : xm} {G : hv} (H : IG m G) {s : Int} (hv : vs G s) : ∃ m', cH_openDoors (hl m 12) s m = some (od G s, m') ∧ fo (hl m 12) m m' ∧ CM m' (hl m 12) G ∧ IG m' G := by
  obtain ⟨m', e1, e2, e3⟩ := cH_openDoors_ok (hl_or m 12) H.1.1 H.1.2.1 hv H.1.2.2.2.1 H.1.2.2.2.2.1
  exact ⟨m', e1, e2, e3, IG_fo H e2 e3⟩
theorem bt_od {G : hv} (w : wfG G) (hD : wfD G) {s d : Int} (h1 : 0 ≤ d) (h2 : d < nD G) : bt (od G s) d = dv G s d := by
  have gD := w.2.2.1
  have key : ∀ k : Nat, (k : Int) ≤ nD G → d < k → bt (odl G s k) d = dv G s d := by
    intro k
    induction k with
    | zero => intro _ h; omega
    | succ k ih =>
      intro hk hd
      have hr := odl_rng w hD s k (by omega)
      have h01 := (dv_01 w hD (s := s) (d := k) (by omega) (by omega)).2
      obtain ⟨e, rfl⟩ := Int.eq_ofNat_of_zero_le h1
      obtain ⟨x, hx⟩ := Int.eq_ofNat_of_zero_le hr.1
      have hx2 : x < 2 ^ k := by
        rw [hx] at hr
        exact_mod_cast hr.2
      have T : ∀ k : Nat, k < 6 → ∀ x : Nat, x < 2 ^ k → ∀ b : Nat, b < 2 → bt ((x : Int) + (b : Int) * 2 ^ k) k = b ∧ ∀ e : Nat, e < k → bt ((x : Int) + (b : Int) * 2 ^ k) e = bt x e := by decide +kernel
      obtain ⟨b, hb, eb⟩ : ∃ b : Nat, b < 2 ∧ dv G s k = (b : Int) := by
        rcases h01 with h | h
        · exact ⟨0, by decide, h⟩
        · exact ⟨1, by decide, h⟩
      have t := T k (by omega) x hx2 b hb
      show bt (odl G s k + dv G s k * 2 ^ k) e = _
      rw [hx, eb]
      by_cases hek : e = k
      · subst hek
        rw [t.1, eb]
      · have := ih (by omega) (by omega)
        rw [hx] at this
        rw [t.2 e (by omega), this]
  exact key (nD G).toNat (by omega) (by omega)
theorem ok_door {v : Int} (hv : rg v) : okI (cL_door v) (r_door v) := by
  intro m hi
  obtain ⟨G, H⟩ := hi
  have hv0 := hv
  obtain ⟨v1, v2⟩ := hv
  obtain ⟨⟨w, hD, -, c, -, r, -⟩, S, -⟩ := (show IG m G from H)
  have gD := w.2.2.1
  unfold cL_door r_door
  rw [cH_isOne_k (hl_or m 12) w c (by decide) (by decide) hv0, bnd_some]
  by_cases h : 0 ≤ v ∧ v < nD G
  · obtain ⟨m1, e1, e2, e3, e4⟩ := IG_od H S.1
    obtain ⟨m2, g1, g2⟩ := r_isOpen_ok w hD S.1 h.1 h.2 (m := m1) e4.1.2.2.2.2.2.1 (by
      have := SN_NR e4.2.1
      rwa [show ld m1 22 0 = ld m 22 0 from ldq (by rw [fo_out (hl_or m 12) e2 (by decide)])] at this)
    refine ⟨_, m1, dv G (ld m 22 0) v, m2, ?_, ?_, rfl, ⟨G, IG_fq e4 g2⟩⟩
    · rw [if_pos (show 0 ≤ v ∧ v < G 0 2 from h), if_neg (by decide), cY_state_ok, bnd_some, e1, bnd_some]
      have := od_rng w hD (ld m 22 0)
      rw [bt_shr (by omega) (by omega) h.1 (by omega), bt_od w hD h.1 h.2]
    · skip
      rw [r_doorMany_ok e4.1.2.2.2.2.2.1, bnd_some, w32_id v1 v2, w32_id (x := nD G - 1) (by omega) (by omega), r_isIn_ok (by omega) (by omega) (by omega) (by omega) (by omega) (by omega), bnd_some, if_pos (show 0 ≤ v ∧ v ≤ nD G - 1 by omega), if_neg (by decide), g1, bnd_some]
      rcases (dv_01 w hD (s := ld m 22 0) h.1 h.2).2 with q | q
      · rw [q]; rfl
      · rw [q]; rfl
  · refine ⟨-1, m, -1, m, ?_, ?_, rfl, ⟨G, H⟩⟩
    · rw [if_neg (show ¬ (0 ≤ v ∧ v < G 0 2) from h), if_pos (by decide)]
    · skip
      rw [r_doorMany_ok r, bnd_some, w32_id v1 v2, w32_id (x := nD G - 1) (by omega) (by omega), r_isIn_ok (by omega) (by omega) (by omega) (by omega) (by omega) (by omega), bnd_some, if_neg (show ¬ (0 ≤ v ∧ v ≤ nD G - 1) by omega), if_pos (by decide)]
theorem ok_has {v : Int} (hv : rg v) : okI (cL_has v) (r_has v) := by
  intro m hi
  obtain ⟨G, H⟩ := hi
  obtain ⟨v1, v2⟩ := hv
  obtain ⟨⟨w, hD, -, c, -, r, -⟩, S, P, T, -, -, E, -⟩ := (show IG m G from H)
  have gs := vs_s w.1 S.1
  have p := hl_or m 12
  have wc := wf_cnt w
  unfold cL_has r_has
  rw [w32_id v1 v2]
  by_cases h7 : v = 7
  · subst h7
    obtain ⟨m1, e1, e2, e3, e4⟩ := IG_od H S.1
    obtain ⟨m2, g1, g2⟩ := r_openNow_ok w hD S.1 (m := m1) e4.1.2.2.2.2.2.1 (by
      have := SN_NR e4.2.1
      rwa [show ld m1 22 0 = ld m 22 0 from ldq (by rw [fo_out (hl_or m 12) e2 (by decide)])] at this)
    refine ⟨od G (ld m 22 0), m1, od G (ld m 22 0), m2, ?_, ?_, rfl, ⟨G, IG_fq e4 g2⟩⟩
    · simp only [xsw, Int.reduceAdd, Int.reduceEq, reduceIte]
      rw [cY_state_ok, bnd_some, e1, bnd_some]
    · simp only [xsw, Int.reduceAdd, Int.reduceEq, reduceIte]
      rw [g1, bnd_some]
  · refine ⟨if 0 ≤ v ∧ v < 4 then G 0 v else if v = 4 then ru G else if v = 5 then ld m 110 0 else if v = 6 then jm G (ld m 22 0) else if v = 8 then ld m 110 6 else if v = 9 then ld m 78 58 else if v = 10 then ld m 78 61 else -1, m, _, m, ?_, ?_, rfl, ⟨G, H⟩⟩
    · by_cases h4 : 0 ≤ v ∧ v < 4
      · rw [if_pos h4]
        have e : cL_has_60 v m = some (G 0 v, m) := by
          unfold cL_has_60
          rw [cH_count_ok p c h4.1 h4.2, bnd_some]
        rcases in4 h4.1 h4.2 with rfl | rfl | rfl | rfl
        · simp only [xsw, reduceIte, e]
        · simp only [xsw, reduceIte, Int.reduceAdd, Int.reduceEq, e]
        · simp only [xsw, reduceIte, Int.reduceAdd, Int.reduceEq, e]
        · simp only [xsw, reduceIte, Int.reduceAdd, Int.reduceEq, e]
      · rw [if_neg h4]
        simp only [xsw, Int.reduceAdd]
        rw [if_neg (show ¬ v = 0 by omega), if_neg (show ¬ v = 1 by omega), if_neg (show ¬ v = 2 by omega), if_neg (show ¬ v = 3 by omega), if_neg h7]
        unfold cH_rust cE_rows cY_acts
        rw [cY_played_ok, cY_state_ok, cY_keptCount_ok, bnd_some, bnd_some, bnd_some, cH_jamsOf_ok w.1 c gs.1 (by omega), bnd_some, bnd_some, bnd_some, bnd_some, ch_ru c]
        have q1 := S.2.2.2.1.1
        have q2 := S.2.2.2.2.1.1
        rw [show (0 : Int) + 6 = 6 by rfl] at q2
        rw [q1, q2, E.1, P.1]
        (repeat' split) <;> rfl
    · by_cases h4 : 0 ≤ v ∧ v < 4
      · rw [if_pos h4]
        have e : r_has_60 v m = some (G 0 v, m) := by
          unfold r_has_60
          rw [ial_in (by omega) (by rw [al101]; omega), r.1 v h4.1 h4.2]
        rcases in4 h4.1 h4.2 with rfl | rfl | rfl | rfl
        · simp only [xsw, reduceIte, e]
        · simp only [xsw, reduceIte, Int.reduceAdd, Int.reduceEq, e]
        · simp only [xsw, reduceIte, Int.reduceAdd, Int.reduceEq, e]
        · simp only [xsw, reduceIte, Int.reduceAdd, Int.reduceEq, e]
      · rw [if_neg h4]
        simp only [xsw, Int.reduceAdd]
        rw [if_neg (show ¬ v = 0 by omega), if_neg (show ¬ v = 1 by omega), if_neg (show ¬ v = 2 by omega), if_neg (show ¬ v = 3 by omega), if_neg h7, ial_in (by decide) (by rw [al106]; decide), ial_in (by decide) (by rw [al110]; decide), r_jammedNow_ok (SN_NR S), bnd_some, ial_in (by decide) (by rw [al110]; decide), r.2.1]
        (repeat' split) <;> rfl
/-- players who have a note -/
def pol (G : hv) (n : Int) : Nat → Int
  | 0 => 0
  | k + 1 => pol G n k + bt (G 5 (k : Int)) n * 2 ^ k
def po (G : hv) (n : Int) : Int := pol G n (nP G).toNat
theorem pol_rng (G : hv) (n : Int) : ∀ k : Nat, 0 ≤ pol G n k ∧ pol G n k < 2 ^ k
  | 0 => ⟨Int.le_refl _, show (0 : Int) < 2 ^ 0 by decide⟩
  | k + 1 => by
    have ih := pol_rng G n k
    have e : (2 : Int) ^ (k + 1) = 2 ^ k * 2 := Int.pow_succ 2 k
    unfold pol
    rw [e]
    rcases bt_01 (G 5 (k : Int)) n with d | d <;> rw [d] <;> omega
theorem po_rng {G : hv} (w : wfG G) (n : Int) : 0 ≤ po G n ∧ po G n < 64 := by
  have gP := w.2.2.2.1
  have := pol_rng G n (nP G).toNat
  have := p2_6 (nP G).toNat (by omega)
  unfold po
  omega
theorem bor_po0 : ∀ k : Nat, k < 6 → ∀ x : Nat, x < 2 ^ k → ∀ b : Nat, b < 2 → bor (x : Int) (shl (b : Int) (k : Int)) = (x : Int) + (b : Int) * 2 ^ k := by decide +kernel
theorem bor_po {k : Nat} {x b : Int} (hk : k < 6) (h1 : 0 ≤ x) (h2 : x < 2 ^ k) (hb : b = 0 ∨ b = 1) : bor x (shl b (k : Int)) = x + b * 2 ^ k := by
  obtain ⟨n, rfl⟩ := Int.eq_ofNat_of_zero_le h1
  have h3 : n < 2 ^ k := by exact_mod_cast h2
  rcases hb with rfl | rfl
  · exact bor_po0 k hk n h3 0 (by decide)
  · exact bor_po0 k hk n h3 1 (by decide)
theorem cH_playersOf_ok {m : xm} {h : Nat} {G : hv} (p : isH h) (w : wfG G) (c : CH m h G) {n : Int} (h1 : 0 ≤ n) (h2 : n < 7) : cH_playersOf h n m = some (po G n, m) := by
  have gP := w.2.2.2.1
  have a := alnH p
  have loop : ∀ (f k : Nat), (k : Int) ≤ nP G → (nP G).toNat - k < f → cH_playersOf_4 h f n (pol G n k) (k : Int) m = some (po G n, m) := by
    intro f
    induction f with
    | zero => intro k _ hf; omega
    | succ f ih =>
      intro k hk hf
      rw [cH_playersOf_4, cH_count_ok p c (by decide) (by decide), bnd_some, w32_id (x := (k : Int)) (by omega) (by omega), w32_id (x := G 0 3) (by unfold nP at *; omega) (by unfold nP at *; omega)]
      by_cases he : nP G ≤ (k : Int)
      · rw [if_pos (by exact he)]
        have : k = (nP G).toNat := by omega
        subst this
        rfl
      · have g5 := w.2.2.2.2.2.2.2.2 (k : Int) (by omega) (by omega)
        have hr := pol_rng G n k
        unfold cH_notesOf
        rw [if_neg (by exact he), cell_in (by omega) (by omega), bnd_some, bnd_some, xlt_eq, ch_pn c (by omega) (by omega), bt_shr g5.1 (by omega) h1 (by omega), bor_po (by omega) hr.1 hr.2 (bt_01 _ _)]
        exact ih (k + 1) (by omega) (by omega)
  exact loop xLF 0 (by omega) (by rw [xLF_eq]; omega)
theorem r_playersOf_ok {m : xm} {G : hv} (w : wfG G) (r : RH m G) {n : Int} (h1 : 0 ≤ n) (h2 : n < 7) : r_playersOf n m = some (po G n, m) := by
  have gP := w.2.2.2.1
  have loop : ∀ (f k : Nat), (k : Int) ≤ nP G → (nP G).toNat - k < f → r_playersOf_4 f n (pol G n k) (k : Int) m = some (po G n, m) := by
    intro f
    induction f with
    | zero => intro k _ hf; omega
    | succ f ih =>
      intro k hk hf
      rw [r_playersOf_4, r_playerMany_ok r, bnd_some, w32_id (x := (k : Int)) (by omega) (by omega), w32_id (x := nP G) (by omega) (by omega)]
      by_cases he : nP G ≤ (k : Int)
      · rw [if_pos he]
        have : k = (nP G).toNat := by omega
        subst this
        rfl
      · have g5 := w.2.2.2.2.2.2.2.2 (k : Int) (by omega) (by omega)
        have hr := pol_rng G n k
        have ih2 := ih (k + 1) (by omega) (by omega)
        have e34 : ∀ (x : Int) m, r_playersOf_34 (fun v1 v2 v3 m => r_playersOf_4 f v1 v2 v3 m) n x (k : Int) m = r_playersOf_4 f n x ((k + 1 : Nat) : Int) m := fun _ _ => rfl
        have ep : pol G n (k + 1) = pol G n k + bt (G 5 (k : Int)) n * 2 ^ k := rfl
        rw [if_neg he, ial_in (by omega) (by rw [al105]; omega), r.2.2.2.2.1 (k : Int) (by omega) (by omega), bt_shr g5.1 (by omega) h1 (by omega), xlt_eq, e34, e34]
        have hb := bor_po (k := k) (x := pol G n k) (b := 1) (by omega) hr.1 hr.2 (Or.inr rfl)
        rw [hb]
        rcases bt_01 (G 5 (k : Int)) n with q | q
        · rw [q] at ep ⊢
          rw [if_neg (by decide)]
          rw [show pol G n k = pol G n (k + 1) by omega]
          exact ih2
        · rw [q] at ep ⊢
          rw [if_pos rfl, ← ep]
          exact ih2
  exact loop xLF 0 (by omega) (by rw [xLF_eq]; omega)
theorem ok_note {n v : Int} (hn : rg n) (hv : rg v) : okI (cL_note n v) (r_note n v) := okI_v (fun m hi => by
  obtain ⟨G, ⟨w, -, -, c, -, r, -⟩, S, -⟩ := hi
  have N := SN_NR S
  have hs := S.1
  have p := hl_or m 12
  have gL := w.1.1
  have gL2 := w.1.2.1
  have gN := w.2.1
  have hn0 := hn
  have hcp : 0 ≤ n ∧ n < nN G → ∃ b : Int, cH_canPlay (hl m 12) (ld m 22 0) n m = some (b, m) ∧ r_canPlay n m = some (b, m) ∧ (b = 0 ∨ b = 1) := by
    intro h
    have hr := r_canPlay_ok w r hs N (n := n) (Or.inr h)
    by_cases q : cp G (ld m 22 0) n
    · exact ⟨1, cH_canPlay_in p w c hs q, hr.1 q, Or.inr rfl⟩
    · exact ⟨0, cH_canPlay_out p w c hs (by rw [w32_id (x := n) (by omega) (by omega)]; exact q), hr.2 q, Or.inl rfl⟩
  obtain ⟨n1, n2⟩ := hn
  obtain ⟨v1, v2⟩ := hv
  by_cases h : 0 ≤ n ∧ n < nN G
  · obtain ⟨b, b1, b2, b3⟩ := hcp h
    refine ⟨if v = 0 then b else if v = 1 then po G n else if 10 ≤ v ∧ v < 10 + nL G then tT G n (v - 10) else -1, ?_, ?_⟩
    · unfold cL_note
      rw [cH_isOne_k p w c (by decide) (by decide) hn0, bnd_some, if_pos (show 0 ≤ n ∧ n < G 0 1 from h), if_neg (by decide), w32_id v1 v2]
      by_cases q0 : v = 0
      · rw [if_pos q0, if_pos q0, cY_state_ok, bnd_some, b1, bnd_some]
        rcases b3 with rfl | rfl <;> rfl
      · rw [if_neg q0, if_neg q0]
        by_cases q1 : v = 1
        · rw [if_pos q1, if_pos q1, cH_playersOf_ok p w c h.1 (by omega), bnd_some]
        · rw [if_neg q1, if_neg q1]
          by_cases q2 : v < 10
          · rw [if_pos q2, if_neg (by omega)]
          · rw [if_neg q2, cH_isOne_k p w c (by decide) (by decide) ⟨by omega, by omega⟩, bnd_some]
            by_cases q3 : 10 ≤ v ∧ v < 10 + nL G
            · rw [if_pos (show 0 ≤ v - 10 ∧ v - 10 < G 0 0 by have := q3.2; unfold nL at this; omega), if_neg (by decide), if_pos q3, cH_turnOf_in p w.1 c h.1 (by omega) (by omega) (by omega), bnd_some]
            · rw [if_neg (show ¬ (0 ≤ v - 10 ∧ v - 10 < G 0 0) by intro z; apply q3; unfold nL; omega), if_pos (by decide), if_neg q3]
    · unfold r_note
      rw [r_isNote_ok w r, bnd_some, w32_id n1 n2, if_pos h, if_neg (by decide), r_lockMany_ok r, bnd_some, w32_id v1 v2, w32_id (x := 9 + nL G) (by omega) (by omega), r_isIn_ok (by omega) (by omega) (by omega) (by omega) (by omega) (by omega), bnd_some]
      by_cases q3 : 10 ≤ v ∧ v < 10 + nL G
      · rw [if_pos (show 10 ≤ v ∧ v ≤ 9 + nL G by omega), if_neg (by decide), if_neg (show ¬ v = 0 by omega), if_neg (show ¬ v = 1 by omega), if_pos q3, r_turnOf_ok w r h.1 h.2 (by omega) (by omega), bnd_some]
      · rw [if_neg (show ¬ (10 ≤ v ∧ v ≤ 9 + nL G) by omega), if_pos (by decide)]
        by_cases q0 : v = 0
        · rw [if_pos q0, if_pos q0, b2, bnd_some]
          rcases b3 with rfl | rfl <;> rfl
        · rw [if_neg q0, if_neg q0]
          by_cases q1 : v = 1
          · rw [if_pos q1, if_pos q1, r_playersOf_ok w r h.1 (by omega), bnd_some]
          · rw [if_neg q1, if_neg q1, if_neg q3]
  · refine ⟨-1, ?_, ?_⟩
    · unfold cL_note
      rw [cH_isOne_k p w c (by decide) (by decide) hn0, bnd_some, if_neg (show ¬ (0 ≤ n ∧ n < G 0 1) from h), if_pos (by decide)]
    · unfold r_note
      rw [r_isNote_ok w r, bnd_some, w32_id n1 n2, if_neg h, if_pos (by decide)])
