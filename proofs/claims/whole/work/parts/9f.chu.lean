/-! the program's hall grows as its picture does -/
section CHU
variable {G : hv} {m m' : xm} {h : Nat} {z : Int} {L C : List Int}
theorem CH_lock {w a j : Int} (p : isH h) (wf : wfG G) (c : CH m h G) (h4 : nL G < 4) (e4 : ld m' (h + 4) 0 = nL G + 1) (e5 : ld m' (h + 5) (nL G) = n32 L) (e6 : ld m' (h + 6) (nL G) = w) (e7 : ld m' (h + 7) (nL G) = j) (e8 : ld m' (h + 8) (nL G) = wy G) (e13 : ld m' h 13 = fs G + a * wy G) (e12 : ld m' h 12 = wy G * w) (e : ∀ b k, ¬ (b = h + 4 ∧ k = 0) → ¬ (b = h + 5 ∧ k = nL G) → ¬ (b = h + 6 ∧ k = nL G) → ¬ (b = h + 7 ∧ k = nL G) → ¬ (b = h + 8 ∧ k = nL G) → ¬ (b = h ∧ (k = 12 ∨ k = 13)) → b ≠ 3 → m' b k = m b k) : CH m' h (aLk G L w a j) := by
  have l0 := wf.1.1
  have pr := isH_rng p
  have cn := wf_cnt wf
  refine ⟨fun k g1 g2 => ?_, ?_, ?_, ?_, fun l g1 g2 => ?_, fun n l g1 g2 g3 g4 => ?_, fun n g1 g2 => ?_, fun q g1 g2 => ?_, fun d g1 g2 => ?_, fun d k g1 g2 g3 g4 => ?_, fun t i g1 g2 g3 g4 => ?_⟩
  · rw [aLk_0]
    by_cases y : k = 0
    · rw [if_pos y, y, e4]
    · rw [if_neg y, ldq (e (h + 4) k (by omega) (by omega) (by omega) (by omega) (by omega) (by omega) (by omega)), ch_cnt c g1 g2]
  · unfold ru
    rw [aLk_0, if_neg (by decide), ldq (e h 14 (by omega) (by omega) (by omega) (by omega) (by omega) (by omega) (by omega))]
    exact ch_ru c
  · rw [wy_aLk l0 h4, e12]
  · rw [fs_aLk l0 h4, e13]
  · rw [aLk_nL] at g2
    rw [aLk_1, aLk_3, pl_aLk l0 h4 g1 (by omega)]
    by_cases y : l = nL G
    · rw [if_pos y, if_pos y, if_pos y, y]
      exact ⟨e6, e7, e8⟩
    · have := ch_lk c g1 (show l < nL G by omega)
      rw [if_neg y, if_neg y, if_neg y, ldq (e (h + 6) l (by omega) (by omega) (by omega) (by omega) (by omega) (by omega) (by omega)), ldq (e (h + 7) l (by omega) (by omega) (by omega) (by omega) (by omega) (by omega) (by omega)), ldq (e (h + 8) l (by omega) (by omega) (by omega) (by omega) (by omega) (by omega) (by omega))]
      exact this
  · have := ch_tT c g1 g2 g3 g4
    unfold tT at *
    rw [aLk_x (by decide), ldq (e (h + 9) _ (by omega) (by omega) (by omega) (by omega) (by omega) (by omega) (by omega))]
    exact this
  · rw [nk_cg (G := G) (fun l _ _ => by unfold tT; rw [aLk_x (by decide)]), ldq (e (h + 10) n (by omega) (by omega) (by omega) (by omega) (by omega) (by omega) (by omega))]
    exact ch_nk c g1 g2
  · rw [aLk_x (by decide), ldq (e (h + 11) q (by omega) (by omega) (by omega) (by omega) (by omega) (by omega) (by omega))]
    exact ch_pn c g1 g2
  · unfold nD at g2
    rw [aLk_0, if_neg (by decide)] at g2
    rw [aLk_x (by decide), aLk_x (by decide), ldq (e (h + 12) d (by omega) (by omega) (by omega) (by omega) (by omega) (by omega) (by omega)), ldq (e (h + 13) d (by omega) (by omega) (by omega) (by omega) (by omega) (by omega) (by omega))]
    exact ch_dr c g1 g2
  · unfold nD at g2
    rw [aLk_0, if_neg (by decide)] at g2
    rw [aLk_x (by decide)] at g3 g4
    rw [aLk_x (by decide), ldq (e (h + 2) k (by omega) (by omega) (by omega) (by omega) (by omega) (by omega) (by omega))]
    exact ch_cd c g1 g2 g3 g4
  · have ct := cn t g1 g2
    rw [aLk_0] at g4
    rw [aLk_9]
    by_cases y : 6 * t + i = nL G
    · rw [if_pos y, y, e5]
    · have : i < G 0 t := by
        by_cases x : t = 0
        · rw [if_pos x] at g4
          subst x
          unfold nL at *
          omega
        · rw [if_neg x] at g4
          exact g4
      rw [if_neg y, ldq (e (h + 5) _ (by omega) (by omega) (by omega) (by omega) (by omega) (by omega) (by omega))]
      exact ch_nm c g1 g2 g3 this
theorem CH_name {t : Int} (p : isH h) (wf : wfG G) (c : CH m h G) (ht : t = 1 ∨ t = 3) (h6 : G 0 t < 6) (e4 : ld m' (h + 4) t = G 0 t + 1) (e5 : ld m' (h + 5) (6 * t + G 0 t) = n32 L) (e : ∀ b k, b ≠ 3 → ¬ (b = h + 5 ∧ k = 6 * t + G 0 t) → ¬ (b = h + 4 ∧ k = t) → m' b k = m b k) : CH m' h (aNm G t L) := by
  have pr := isH_rng p
  have cn := wf_cnt wf
  have e0 : aNm G t L 0 0 = G 0 0 := by rw [aNm_0, if_neg (by omega)]
  have e2 : aNm G t L 0 2 = G 0 2 := by rw [aNm_0, if_neg (by omega)]
  have ex : ∀ (a : Nat) (k : Int), a ≠ 0 → a ≠ 9 → aNm G t L a k = G a k := fun a k g1 g2 => aNm_x g1 g2
  refine ⟨fun k g1 g2 => ?_, ?_, ?_, ?_, fun l g1 g2 => ?_, fun n l g1 g2 g3 g4 => ?_, fun n g1 g2 => ?_, fun q g1 g2 => ?_, fun d g1 g2 => ?_, fun d k g1 g2 g3 g4 => ?_, fun t' i g1 g2 g3 g4 => ?_⟩
  · rw [aNm_0]
    by_cases y : k = t
    · rw [if_pos y, y, e4]
    · rw [if_neg y, ldq (e (h + 4) k (by omega) (by omega) (by omega)), ch_cnt c g1 g2]
  · unfold ru
    rw [aNm_0, if_neg (by omega), ldq (e h 14 (by omega) (by omega) (by omega))]
    exact ch_ru c
  · rw [wy_cg e0 (fun l => ex 1 l (by decide) (by decide)), ldq (e h 12 (by omega) (by omega) (by omega))]
    exact ch_wy c
  · rw [fs_cg e0 (fun l => ex 1 l (by decide) (by decide)) (fun l => ex 2 l (by decide) (by decide)), ldq (e h 13 (by omega) (by omega) (by omega))]
    exact ch_fs c
  · unfold nL at g2
    rw [e0] at g2
    rw [ex 1 l (by decide) (by decide), ex 3 l (by decide) (by decide), pl_cg e0 (fun l => ex 1 l (by decide) (by decide)), ldq (e (h + 6) l (by omega) (by omega) (by omega)), ldq (e (h + 7) l (by omega) (by omega) (by omega)), ldq (e (h + 8) l (by omega) (by omega) (by omega))]
    exact ch_lk c g1 g2
  · have := ch_tT c g1 g2 g3 g4
    unfold tT at *
    rw [ex 4 _ (by decide) (by decide), ldq (e (h + 9) _ (by omega) (by omega) (by omega))]
    exact this
  · rw [nk_cg (G := G) (fun l _ _ => by unfold tT; rw [ex 4 _ (by decide) (by decide)]), ldq (e (h + 10) n (by omega) (by omega) (by omega))]
    exact ch_nk c g1 g2
  · rw [ex 5 q (by decide) (by decide), ldq (e (h + 11) q (by omega) (by omega) (by omega))]
    exact ch_pn c g1 g2
  · unfold nD at g2
    rw [e2] at g2
    rw [ex 6 d (by decide) (by decide), ex 7 d (by decide) (by decide), ldq (e (h + 12) d (by omega) (by omega) (by omega)), ldq (e (h + 13) d (by omega) (by omega) (by omega))]
    exact ch_dr c g1 g2
  · unfold nD at g2
    rw [e2] at g2
    rw [ex 6 d (by decide) (by decide)] at g3
    rw [ex 7 d (by decide) (by decide)] at g4
    rw [ex 8 k (by decide) (by decide), ldq (e (h + 2) k (by omega) (by omega) (by omega))]
    exact ch_cd c g1 g2 g3 g4
  · have ct := cn t' g1 g2
    have ct2 := cn t (by omega) (by omega)
    rw [aNm_0] at g4
    rw [aNm_9]
    by_cases y : 6 * t' + i = 6 * t + G 0 t
    · rw [if_pos y, y, e5]
    · have : i < G 0 t' := by
        by_cases x : t' = t
        · rw [if_pos x] at g4
          subst x
          omega
        · rw [if_neg x] at g4
          exact g4
      rw [if_neg y, ldq (e (h + 5) _ (by omega) (by omega) (by omega))]
      exact ch_nm c g1 g2 g3 this
theorem nk_turn {n l v : Int} (hl0 : 0 ≤ l) (hl : l < 4) (hv : 0 < v) (ht : tT G n l = 0) : nk (aTn G n l v) n = sb (nk G n) l := by
  have b := nk_bt G n hl0 hl
  rw [ht, if_neg (by decide)] at b
  unfold sb
  rw [b, if_neg (by decide)]
  have e : ∀ l', l' ≠ l → tT (aTn G n l v) n l' = tT G n l' := fun l' y => by
    unfold tT aTn
    rw [st_at (by omega)]
  have e2 : tT (aTn G n l v) n l = v := by
    unfold tT aTn
    rw [st_eq]
  unfold nk
  rcases in4 hl0 hl with rfl | rfl | rfl | rfl
  · rw [e2, e 1 (by decide), e 2 (by decide), e 3 (by decide), ht, if_pos hv, if_neg (show ¬ (0 : Int) < 0 by decide), show (2 : Int) ^ (0 : Int).toNat = 1 from rfl]
    omega
  · rw [e2, e 0 (by decide), e 2 (by decide), e 3 (by decide), ht, if_pos hv, if_neg (show ¬ (0 : Int) < 0 by decide), show (2 : Int) ^ (1 : Int).toNat = 2 from rfl]
    omega
  · rw [e2, e 0 (by decide), e 1 (by decide), e 3 (by decide), ht, if_pos hv, if_neg (show ¬ (0 : Int) < 0 by decide), show (2 : Int) ^ (2 : Int).toNat = 4 from rfl]
    omega
  · rw [e2, e 0 (by decide), e 1 (by decide), e 2 (by decide), ht, if_pos hv, if_neg (show ¬ (0 : Int) < 0 by decide), show (2 : Int) ^ (3 : Int).toNat = 8 from rfl]
    omega
theorem CH_turn {n l v : Int} (p : isH h) (c : CH m h G) (hn0 : 0 ≤ n) (hn : n < 6) (hl0 : 0 ≤ l) (hl : l < 4) (hv : 0 < v) (ht : tT G n l = 0) (e9 : ld m' (h + 9) (4 * n + l) = v) (e10 : ld m' (h + 10) n = sb (nk G n) l) (e : ∀ b k, b ≠ 3 → ¬ (b = h + 9 ∧ k = 4 * n + l) → ¬ (b = h + 10 ∧ k = n) → m' b k = m b k) : CH m' h (aTn G n l v) := by
  have pr := isH_rng p
  have ex : ∀ (a : Nat) (k : Int), a ≠ 4 → aTn G n l v a k = G a k := fun a k g => by unfold aTn; rw [st_at (fun y => g y.1)]
  refine ⟨fun k g1 g2 => ?_, ?_, ?_, ?_, fun l' g1 g2 => ?_, fun n' l' g1 g2 g3 g4 => ?_, fun n' g1 g2 => ?_, fun q g1 g2 => ?_, fun d g1 g2 => ?_, fun d k g1 g2 g3 g4 => ?_, fun t i g1 g2 g3 g4 => ?_⟩
  · rw [ex 0 k (by decide), ldq (e (h + 4) k (by omega) (by omega) (by omega))]
    exact ch_cnt c g1 g2
  · unfold ru
    rw [ex 0 4 (by decide), ldq (e h 14 (by omega) (by omega) (by omega))]
    exact ch_ru c
  · rw [wy_cg (ex 0 0 (by decide)) (fun l => ex 1 l (by decide)), ldq (e h 12 (by omega) (by omega) (by omega))]
    exact ch_wy c
  · rw [fs_cg (ex 0 0 (by decide)) (fun l => ex 1 l (by decide)) (fun l => ex 2 l (by decide)), ldq (e h 13 (by omega) (by omega) (by omega))]
    exact ch_fs c
  · unfold nL at g2
    rw [ex 0 0 (by decide)] at g2
    rw [ex 1 l' (by decide), ex 3 l' (by decide), pl_cg (ex 0 0 (by decide)) (fun l => ex 1 l (by decide)), ldq (e (h + 6) l' (by omega) (by omega) (by omega)), ldq (e (h + 7) l' (by omega) (by omega) (by omega)), ldq (e (h + 8) l' (by omega) (by omega) (by omega))]
    exact ch_lk c g1 g2
  · have := ch_tT c g1 g2 g3 g4
    unfold tT aTn at *
    by_cases y : 4 * n' + l' = 4 * n + l
    · rw [y, st_eq, e9]
    · rw [st_at (fun x => y x.2), ldq (e (h + 9) _ (by omega) (by omega) (by omega))]
      exact this
  · by_cases y : n' = n
    · rw [y, nk_turn hl0 hl hv ht, e10]
    · rw [nk_cg (G := G) (fun l' _ _ => by unfold tT aTn; rw [st_at (by omega)]), ldq (e (h + 10) n' (by omega) (by omega) (by omega))]
      exact ch_nk c g1 g2
  · rw [ex 5 q (by decide), ldq (e (h + 11) q (by omega) (by omega) (by omega))]
    exact ch_pn c g1 g2
  · unfold nD at g2
    rw [ex 0 2 (by decide)] at g2
    rw [ex 6 d (by decide), ex 7 d (by decide), ldq (e (h + 12) d (by omega) (by omega) (by omega)), ldq (e (h + 13) d (by omega) (by omega) (by omega))]
    exact ch_dr c g1 g2
  · unfold nD at g2
    rw [ex 0 2 (by decide)] at g2
    rw [ex 6 d (by decide)] at g3
    rw [ex 7 d (by decide)] at g4
    rw [ex 8 k (by decide), ldq (e (h + 2) k (by omega) (by omega) (by omega))]
    exact ch_cd c g1 g2 g3 g4
  · rw [ex 0 t (by decide)] at g4
    rw [ex 9 _ (by decide), ldq (e (h + 5) _ (by omega) (by omega) (by omega))]
    exact ch_nm c g1 g2 g3 g4
theorem CH_plays {q v : Int} (p : isH h) (c : CH m h G) (e11 : ld m' (h + 11) q = v) (e : ∀ b k, b ≠ 3 → ¬ (b = h + 11 ∧ k = q) → m' b k = m b k) : CH m' h (aPy G q v) := by
  have pr := isH_rng p
  have ex : ∀ (a : Nat) (k : Int), a ≠ 5 → aPy G q v a k = G a k := fun a k g => by unfold aPy; rw [st_at (fun y => g y.1)]
  refine ⟨fun k g1 g2 => ?_, ?_, ?_, ?_, fun l' g1 g2 => ?_, fun n' l' g1 g2 g3 g4 => ?_, fun n' g1 g2 => ?_, fun r g1 g2 => ?_, fun d g1 g2 => ?_, fun d k g1 g2 g3 g4 => ?_, fun t i g1 g2 g3 g4 => ?_⟩
  · rw [ex 0 k (by decide), ldq (e (h + 4) k (by omega) (by omega))]
    exact ch_cnt c g1 g2
  · unfold ru
    rw [ex 0 4 (by decide), ldq (e h 14 (by omega) (by omega))]
    exact ch_ru c
  · rw [wy_cg (ex 0 0 (by decide)) (fun l => ex 1 l (by decide)), ldq (e h 12 (by omega) (by omega))]
    exact ch_wy c
  · rw [fs_cg (ex 0 0 (by decide)) (fun l => ex 1 l (by decide)) (fun l => ex 2 l (by decide)), ldq (e h 13 (by omega) (by omega))]
    exact ch_fs c
  · unfold nL at g2
    rw [ex 0 0 (by decide)] at g2
    rw [ex 1 l' (by decide), ex 3 l' (by decide), pl_cg (ex 0 0 (by decide)) (fun l => ex 1 l (by decide)), ldq (e (h + 6) l' (by omega) (by omega)), ldq (e (h + 7) l' (by omega) (by omega)), ldq (e (h + 8) l' (by omega) (by omega))]
    exact ch_lk c g1 g2
  · have := ch_tT c g1 g2 g3 g4
    unfold tT at *
    rw [ex 4 _ (by decide), ldq (e (h + 9) _ (by omega) (by omega))]
    exact this
  · rw [nk_cg (G := G) (fun l' _ _ => by unfold tT; rw [ex 4 _ (by decide)]), ldq (e (h + 10) n' (by omega) (by omega))]
    exact ch_nk c g1 g2
  · unfold aPy
    by_cases y : r = q
    · rw [y, st_eq, e11]
    · rw [st_at (fun x => y x.2), ldq (e (h + 11) r (by omega) (by omega))]
      exact ch_pn c g1 g2
  · unfold nD at g2
    rw [ex 0 2 (by decide)] at g2
    rw [ex 6 d (by decide), ex 7 d (by decide), ldq (e (h + 12) d (by omega) (by omega)), ldq (e (h + 13) d (by omega) (by omega))]
    exact ch_dr c g1 g2
  · unfold nD at g2
    rw [ex 0 2 (by decide)] at g2
    rw [ex 6 d (by decide)] at g3
    rw [ex 7 d (by decide)] at g4
    rw [ex 8 k (by decide), ldq (e (h + 2) k (by omega) (by omega))]
    exact ch_cd c g1 g2 g3 g4
  · rw [ex 0 t (by decide)] at g4
    rw [ex 9 _ (by decide), ldq (e (h + 5) _ (by omega) (by omega))]
    exact ch_nm c g1 g2 g3 g4
theorem CH_rust {v : Int} (p : isH h) (c : CH m h G) (e14 : ld m' h 14 = v) (e : ∀ b k, b ≠ 3 → ¬ (b = h ∧ k = 14) → m' b k = m b k) : CH m' h (st G 0 4 v) := by
  have pr := isH_rng p
  have ex : ∀ (a : Nat) (k : Int), ¬ (a = 0 ∧ k = 4) → st G 0 4 v a k = G a k := fun a k g => st_at g
  refine ⟨fun k g1 g2 => ?_, ?_, ?_, ?_, fun l' g1 g2 => ?_, fun n' l' g1 g2 g3 g4 => ?_, fun n' g1 g2 => ?_, fun r g1 g2 => ?_, fun d g1 g2 => ?_, fun d k g1 g2 g3 g4 => ?_, fun t i g1 g2 g3 g4 => ?_⟩
  · rw [ex 0 k (by omega), ldq (e (h + 4) k (by omega) (by omega))]
    exact ch_cnt c g1 g2
  · unfold ru
    rw [st_eq, e14]
  · rw [wy_cg (ex 0 0 (by decide)) (fun l => ex 1 l (by omega)), ldq (e h 12 (by omega) (by omega))]
    exact ch_wy c
  · rw [fs_cg (ex 0 0 (by decide)) (fun l => ex 1 l (by omega)) (fun l => ex 2 l (by omega)), ldq (e h 13 (by omega) (by omega))]
    exact ch_fs c
  · unfold nL at g2
    rw [ex 0 0 (by decide)] at g2
    rw [ex 1 l' (by omega), ex 3 l' (by omega), pl_cg (ex 0 0 (by decide)) (fun l => ex 1 l (by omega)), ldq (e (h + 6) l' (by omega) (by omega)), ldq (e (h + 7) l' (by omega) (by omega)), ldq (e (h + 8) l' (by omega) (by omega))]
    exact ch_lk c g1 g2
  · have := ch_tT c g1 g2 g3 g4
    unfold tT at *
    rw [ex 4 _ (by omega), ldq (e (h + 9) _ (by omega) (by omega))]
    exact this
  · rw [nk_cg (G := G) (fun l' _ _ => by unfold tT; rw [ex 4 _ (by omega)]), ldq (e (h + 10) n' (by omega) (by omega))]
    exact ch_nk c g1 g2
  · rw [ex 5 r (by omega), ldq (e (h + 11) r (by omega) (by omega))]
    exact ch_pn c g1 g2
  · unfold nD at g2
    rw [ex 0 2 (by decide)] at g2
    rw [ex 6 d (by omega), ex 7 d (by omega), ldq (e (h + 12) d (by omega) (by omega)), ldq (e (h + 13) d (by omega) (by omega))]
    exact ch_dr c g1 g2
  · unfold nD at g2
    rw [ex 0 2 (by decide)] at g2
    rw [ex 6 d (by omega)] at g3
    rw [ex 7 d (by omega)] at g4
    rw [ex 8 k (by omega), ldq (e (h + 2) k (by omega) (by omega))]
    exact ch_cd c g1 g2 g3 g4
  · rw [ex 0 t (by omega)] at g4
    rw [ex 9 _ (by omega), ldq (e (h + 5) _ (by omega) (by omega))]
    exact ch_nm c g1 g2 g3 g4
theorem CH_door (p : isH h) (wf : wfG G) (c : CH m h G) (h7 : ∀ d, 0 ≤ d → d < nD G → G 7 d ≤ z) (h6 : nD G < 6) (hz : 0 ≤ z) (e4 : ld m' (h + 4) 2 = nD G + 1) (e5 : ld m' (h + 5) (12 + nD G) = n32 L) (e12 : ld m' (h + 12) (nD G) = z) (e13 : ld m' (h + 13) (nD G) = z + (C.length : Int)) (e2 : ∀ k, 0 ≤ k → k < z + (C.length : Int) → ld m' (h + 2) k = if z ≤ k then C.getD (k - z).toNat 0 else ld m (h + 2) k) (hD : wfD G) (e : ∀ b k, b ≠ 3 → ¬ (b = h + 5 ∧ k = 12 + nD G) → ¬ (b = h + 4 ∧ k = 2) → ¬ (b = h + 12 ∧ k = nD G) → ¬ (b = h + 13 ∧ k = nD G) → b ≠ h + 2 → ¬ (b = h + 1 ∧ k = 2) → m' b k = m b k) : CH m' h (aDr G L C z) := by
  have pr := isH_rng p
  have cn := wf_cnt wf
  have e0 : aDr G L C z 0 0 = G 0 0 := by rw [aDr_0, if_neg (by decide)]
  have ex : ∀ (a : Nat) (k : Int), a ≠ 0 ∧ a ≠ 6 ∧ a ≠ 7 ∧ a ≠ 8 ∧ a ≠ 9 → aDr G L C z a k = G a k := fun a k g => aDr_x g
  refine ⟨fun k g1 g2 => ?_, ?_, ?_, ?_, fun l g1 g2 => ?_, fun n l g1 g2 g3 g4 => ?_, fun n g1 g2 => ?_, fun q g1 g2 => ?_, fun d g1 g2 => ?_, fun d k g1 g2 g3 g4 => ?_, fun t' i g1 g2 g3 g4 => ?_⟩
  · rw [aDr_0]
    by_cases y : k = 2
    · rw [if_pos y, y, e4]; rfl
    · rw [if_neg y, ldq (e (h + 4) k (by omega) (by omega) (by omega) (by omega) (by omega) (by omega) (by omega)), ch_cnt c g1 g2]
  · unfold ru
    rw [aDr_0, if_neg (by decide), ldq (e h 14 (by omega) (by omega) (by omega) (by omega) (by omega) (by omega) (by omega))]
    exact ch_ru c
  · rw [wy_cg e0 (fun l => ex 1 l (by decide)), ldq (e h 12 (by omega) (by omega) (by omega) (by omega) (by omega) (by omega) (by omega))]
    exact ch_wy c
  · rw [fs_cg e0 (fun l => ex 1 l (by decide)) (fun l => ex 2 l (by decide)), ldq (e h 13 (by omega) (by omega) (by omega) (by omega) (by omega) (by omega) (by omega))]
    exact ch_fs c
  · unfold nL at g2
    rw [e0] at g2
    rw [ex 1 l (by decide), ex 3 l (by decide), pl_cg e0 (fun l => ex 1 l (by decide)), ldq (e (h + 6) l (by omega) (by omega) (by omega) (by omega) (by omega) (by omega) (by omega)), ldq (e (h + 7) l (by omega) (by omega) (by omega) (by omega) (by omega) (by omega) (by omega)), ldq (e (h + 8) l (by omega) (by omega) (by omega) (by omega) (by omega) (by omega) (by omega))]
    exact ch_lk c g1 g2
  · have := ch_tT c g1 g2 g3 g4
    unfold tT at *
    rw [ex 4 _ (by decide), ldq (e (h + 9) _ (by omega) (by omega) (by omega) (by omega) (by omega) (by omega) (by omega))]
    exact this
  · rw [nk_cg (G := G) (fun l _ _ => by unfold tT; rw [ex 4 _ (by decide)]), ldq (e (h + 10) n (by omega) (by omega) (by omega) (by omega) (by omega) (by omega) (by omega))]
    exact ch_nk c g1 g2
  · rw [ex 5 q (by decide), ldq (e (h + 11) q (by omega) (by omega) (by omega) (by omega) (by omega) (by omega) (by omega))]
    exact ch_pn c g1 g2
  · have g2' : d < nD G + 1 := by unfold nD at *; rw [aDr_0, if_pos rfl] at g2; exact g2
    rw [aDr_6, aDr_7]
    by_cases y : d = nD G
    · rw [if_pos y, if_pos y, y]
      exact ⟨e12, e13⟩
    · rw [if_neg y, if_neg y, ldq (e (h + 12) d (by omega) (by omega) (by omega) (by omega) (by omega) (by omega) (by omega)), ldq (e (h + 13) d (by omega) (by omega) (by omega) (by omega) (by omega) (by omega) (by omega))]
      exact ch_dr c g1 (by omega)
  · have g2' : d < nD G + 1 := by unfold nD at *; rw [aDr_0, if_pos rfl] at g2; exact g2
    rw [aDr_6] at g3
    rw [aDr_7] at g4
    rw [aDr_8]
    by_cases y : d = nD G
    · rw [if_pos y] at g3 g4
      rw [if_pos ⟨g3, g4⟩, e2 k (by omega) g4, if_pos g3]
    · rw [if_neg y] at g3 g4
      have q := hD d g1 (by omega)
      have q7 := h7 d g1 (by omega)
      rw [if_neg (by omega), e2 k (by omega) (by omega), if_neg (by omega)]
      exact ch_cd c g1 (by omega) g3 g4
  · have ct := cn t' g1 g2
    have ct2 := cn 2 (by decide) (by decide)
    rw [aDr_0] at g4
    rw [aDr_9]
    by_cases y : 6 * t' + i = 12 + G 0 2
    · rw [if_pos y, y]; exact e5
    · have : i < G 0 t' := by
        by_cases x : t' = 2
        · rw [if_pos x] at g4
          subst x
          omega
        · rw [if_neg x] at g4
          exact g4
      rw [if_neg y, ldq (e (h + 5) _ (by omega) (by unfold nD; omega) (by omega) (by omega) (by omega) (by omega) (by omega))]
      exact ch_nm c g1 g2 g3 this
end CHU
