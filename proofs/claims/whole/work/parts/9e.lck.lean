/-! a new lock -/
section LCK
variable {G : hv} {z : Int} {L : List Int} {w a j : Int}
theorem aLk_0 {k : Int} : aLk G L w a j 0 k = if k = 0 then nL G + 1 else G 0 k := by
  unfold aLk
  rw [st_at (by omega), st_at (by omega), st_at (by omega), aNm_0]
  rfl
theorem aLk_9 {k : Int} : aLk G L w a j 9 k = if k = nL G then n32 L else G 9 k := by
  unfold aLk
  rw [st_at (by omega), st_at (by omega), st_at (by omega), aNm_9, show 6 * 0 + G 0 0 = nL G by unfold nL; omega]
theorem aLk_1 {k : Int} : aLk G L w a j 1 k = if k = nL G then w else G 1 k := by
  unfold aLk
  rw [st_at (by omega), st_at (by omega)]
  by_cases c : k = nL G
  · rw [if_pos c, c, st_eq]
  · rw [if_neg c, st_at (fun y => c y.2), aNm_x (by decide) (by decide)]
theorem aLk_2 {k : Int} : aLk G L w a j 2 k = if k = nL G then a else G 2 k := by
  unfold aLk
  rw [st_at (by omega)]
  by_cases c : k = nL G
  · rw [if_pos c, c, st_eq]
  · rw [if_neg c, st_at (fun y => c y.2), st_at (by omega), aNm_x (by decide) (by decide)]
theorem aLk_3 {k : Int} : aLk G L w a j 3 k = if k = nL G then j else G 3 k := by
  unfold aLk
  by_cases c : k = nL G
  · rw [if_pos c, c, st_eq]
  · rw [if_neg c, st_at (fun y => c y.2), st_at (by omega), st_at (by omega), aNm_x (by decide) (by decide)]
theorem aLk_x {b : Nat} {k : Int} (h : b ≠ 0 ∧ b ≠ 1 ∧ b ≠ 2 ∧ b ≠ 3 ∧ b ≠ 9) : aLk G L w a j b k = G b k := by
  unfold aLk
  rw [st_at (fun y => h.2.2.2.1 y.1), st_at (fun y => h.2.2.1 y.1), st_at (fun y => h.2.1 y.1), aNm_x h.1 h.2.2.2.2]
theorem aLk_nL : nL (aLk G L w a j) = nL G + 1 := by
  unfold nL
  rw [aLk_0, if_pos rfl]
  rfl
theorem wx_aLk (h0 : 0 ≤ nL G) {l : Int} : wx (aLk G L w a j) l = if l = nL G then w else wx G l := by
  unfold wx
  rw [aLk_nL, aLk_1]
  by_cases c : l = nL G
  · rw [if_pos c, if_pos c, if_pos (by omega)]
  · rw [if_neg c, if_neg c]
    by_cases d : 0 ≤ l ∧ l < nL G
    · rw [if_pos d, if_pos (by omega)]
    · rw [if_neg d, if_neg (by omega)]
theorem lk4 (h0 : 0 ≤ nL G) (h4 : nL G < 4) : nL G = 0 ∨ nL G = 1 ∨ nL G = 2 ∨ nL G = 3 := by omega
theorem pl_aLk (h0 : 0 ≤ nL G) (h4 : nL G < 4) {l : Int} (hl0 : 0 ≤ l) (hl : l ≤ nL G) : pl (aLk G L w a j) l = if l = nL G then wy G else pl G l := by
  unfold pl wy
  rw [wx_aLk h0, wx_aLk h0, wx_aLk h0]
  have o : ∀ k, nL G ≤ k → wx G k = 1 := fun k hk => wx_out (by omega)
  rcases lk4 h0 h4 with e | e | e | e
  · rw [show l = 0 by omega, o 0 (by omega), o 1 (by omega), o 2 (by omega), o 3 (by omega), e]
    rfl
  · rw [o 1 (by omega), o 2 (by omega), o 3 (by omega), Int.mul_one, Int.mul_one, Int.mul_one, e]
    rcases (show l = 0 ∨ l = 1 by omega) with rfl | rfl <;> rfl
  · rw [o 2 (by omega), o 3 (by omega), Int.mul_one, Int.mul_one, e]
    rcases (show l = 0 ∨ l = 1 ∨ l = 2 by omega) with rfl | rfl | rfl <;> rfl
  · rw [o 3 (by omega), Int.mul_one, e]
    rcases (show l = 0 ∨ l = 1 ∨ l = 2 ∨ l = 3 by omega) with rfl | rfl | rfl | rfl <;> rfl
theorem wy_aLk (h0 : 0 ≤ nL G) (h4 : nL G < 4) : wy (aLk G L w a j) = wy G * w := by
  unfold wy
  rw [wx_aLk h0, wx_aLk h0, wx_aLk h0, wx_aLk h0]
  have o : ∀ k, nL G ≤ k → wx G k = 1 := fun k hk => wx_out (by omega)
  rcases lk4 h0 h4 with e | e | e | e
  · rw [o 0 (by omega), o 1 (by omega), o 2 (by omega), o 3 (by omega), e, if_pos rfl, if_neg (by decide), if_neg (by decide), if_neg (by decide)]
    simp only [Int.mul_one, Int.one_mul]
  · rw [o 1 (by omega), o 2 (by omega), o 3 (by omega), e, if_neg (by decide), if_pos rfl, if_neg (by decide), if_neg (by decide)]
    simp only [Int.mul_one]
  · rw [o 2 (by omega), o 3 (by omega), e, if_neg (by decide), if_neg (by decide), if_pos rfl, if_neg (by decide)]
    simp only [Int.mul_one]
  · rw [o 3 (by omega), e, if_neg (by decide), if_neg (by decide), if_neg (by decide), if_pos rfl]
    simp only [Int.mul_one]
theorem fs_aLk (h0 : 0 ≤ nL G) (h4 : nL G < 4) : fs (aLk G L w a j) = fs G + a * wy G := by
  unfold fs mkS mk4 wy
  rw [wx_aLk h0, wx_aLk h0, wx_aLk h0, wx_aLk h0, aLk_nL]
  simp only [aLk_2]
  have o : ∀ k, nL G ≤ k → wx G k = 1 := fun k hk => wx_out (by omega)
  rcases lk4 h0 h4 with e | e | e | e
  · rw [o 0 (by omega), o 1 (by omega), o 2 (by omega), o 3 (by omega), e]
    simp
  · rw [o 1 (by omega), o 2 (by omega), o 3 (by omega), e]
    simp
    rw [Int.mul_comm]
  · rw [o 2 (by omega), o 3 (by omega), e]
    simp
    simp only [Int.mul_add, ← Int.mul_assoc, Int.add_assoc, Int.mul_comm a]
  · rw [o 3 (by omega), e]
    simp
    simp only [Int.mul_add, ← Int.mul_assoc, Int.add_assoc, Int.mul_comm a]
theorem GI_lock (I : GI G z) (hl : nL G < 4) (hw1 : 2 ≤ w) (hw2 : w ≤ 5) (ha1 : 0 ≤ a) (ha2 : a < w) (hj1 : -1 ≤ j) (hj2 : j < w) : GI (aLk G L w a j) z := by
  obtain ⟨wf, wD, h7, hz, h5⟩ := I
  have l0 := wf.1.1
  have e0 : ∀ k, k ≠ 0 → aLk G L w a j 0 k = G 0 k := fun k g => by rw [aLk_0, if_neg g]
  have ex : ∀ (b : Nat) (k : Int), b ≠ 0 ∧ b ≠ 1 ∧ b ≠ 2 ∧ b ≠ 3 ∧ b ≠ 9 → aLk G L w a j b k = G b k := fun b k g => aLk_x g
  refine ⟨⟨⟨by rw [aLk_nL]; omega, by rw [aLk_nL]; omega, fun l g1 g2 => ?_⟩, ?_, ?_, ?_, ?_, fun l g1 g2 => ?_, fun n l g1 g2 g3 g4 => ?_, fun _ => by rw [aLk_nL]; omega, fun p g1 g2 => by rw [ex 5 p (by decide)]; exact wf.2.2.2.2.2.2.2.2 p g1 g2⟩, wfD_cg wD (e0 2 (by decide)) (fun d => ex 6 d (by decide)) (fun d => ex 7 d (by decide)) (fun k => ex 8 k (by decide)), ?_, hz, ?_⟩
  · rw [aLk_nL] at g2
    rw [aLk_1]
    by_cases c : l = nL G
    · rw [if_pos c]; omega
    · rw [if_neg c]; exact wf.1.2.2 l g1 (by omega)
  · unfold nN
    rw [e0 1 (by decide)]; exact wf.2.1
  · unfold nD
    rw [e0 2 (by decide)]; exact wf.2.2.1
  · unfold nP
    rw [e0 3 (by decide)]; exact wf.2.2.2.1
  · unfold ru
    rw [e0 4 (by decide)]; exact wf.2.2.2.2.1
  · rw [aLk_nL] at g2
    rw [aLk_1, aLk_2, aLk_3]
    by_cases c : l = nL G
    · rw [if_pos c, if_pos c, if_pos c]; omega
    · rw [if_neg c, if_neg c, if_neg c]; exact wf.2.2.2.2.2.1 l g1 (by omega)
  · have t := wf.2.2.2.2.2.2.1 n l g1 g2 g3 g4
    rw [aLk_nL]
    unfold tT nN at *
    rw [ex 4 _ (by decide), e0 1 (by decide)]
    exact ⟨t.1, t.2.1, fun g => t.2.2 (by omega)⟩
  · intro d g1 g2
    unfold nD at g2
    rw [e0 2 (by decide)] at g2
    rw [ex 7 d (by decide)]
    exact h7 d g1 g2
  · intro p g1 g2
    unfold nP at g1
    rw [e0 3 (by decide)] at g1
    rw [ex 5 p (by decide)]
    exact h5 p g1 g2
end LCK
