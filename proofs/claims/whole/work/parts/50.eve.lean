/-! an evening -/
theorem ldv_nn {x y : Int} (h1 : 0 ≤ x) (h2 : x ≤ 9223372036854775807) (h3 : 0 < y) (h4 : y ≤ 9223372036854775807) : ldv x y = x / y := by
  unfold ldv
  have h7 : 0 ≤ x / y := Int.ediv_nonneg h1 (by omega)
  have h8 : x / y ≤ x := Int.ediv_le_self _ h1
  rw [Int64.toInt_div, i64_toInt (by omega) h2, i64_toInt (by omega) h4, Int.tdiv_eq_ediv_of_nonneg h1]
  rw [Int.bmod_eq_of_le] <;> omega
theorem lrm_nn {x y : Int} (h1 : 0 ≤ x) (h2 : x ≤ 9223372036854775807) (h3 : 0 < y) (h4 : y ≤ 9223372036854775807) : lrm x y = x % y := by
  have h5 := ldv_nn h1 h2 h3 h4
  have h6 : i64 x / i64 y = i64 (x / y) := by
    apply Int64.toInt_inj.mp
    have h7 : 0 ≤ x / y := Int.ediv_nonneg h1 (by omega)
    have h8 : x / y ≤ x := Int.ediv_le_self _ h1
    rw [i64_toInt (by omega) (by omega)]
    exact h5
  unfold lrm
  rw [h6]
  have h9 : i64 x - i64 (x / y) * i64 y = i64 (x % y) := by
    unfold i64
    rw [← Int64.ofInt_mul, ← Int64.ofInt_sub]
    congr 1
    have := Int.emod_add_mul_ediv x y
    rw [Int.mul_comm] at this
    omega
  rw [h9]
  have h10 := Int.emod_nonneg x (show y ≠ 0 by omega)
  have h11 := Int.emod_lt_of_pos x h3
  exact i64_toInt (by omega) (by omega)
def nsd (x : Int) : Int := (1103515245 * x + 12345) % 2147483648
theorem nsd_rng (x : Int) : 0 ≤ nsd x ∧ nsd x ≤ 2147483647 := by
  unfold nsd
  omega
theorem cL_draw_ok {m : xm} {x k : Int} (hx : ldl m 0 17 = x) (h1 : 0 ≤ x) (h2 : x ≤ 2147483647) (hk : 0 < k) (hk2 : k ≤ 2147483647) : cL_draw k m = some (nsd x / 64 % k, st m 0 17 (nsd x)) := by
  have hn := nsd_rng x
  unfold cL_draw
  have e : lrm (1103515245 * x + 12345) 2147483648 = nsd x := lrm_nn (by omega) (by omega) (by decide) (by decide)
  rw [hx, e, stf_eq, w32_id (x := k) (by omega) (by omega), if_neg (by omega), if_neg (by omega), ldl_st_eq, w64_id (by omega) (by omega), ldv_nn (by omega) (by omega) (by decide) (by decide), lrm_nn (by omega) (by omega) (by omega) (by omega)]
theorem r_drawOf_ok {m : xm} {x k : Int} (hx : ldl m 78 63 = x) (h1 : 0 ≤ x) (h2 : x ≤ 2147483647) (hk : 0 < k) (hk2 : k ≤ 2147483647) : r_drawOf k m = some (nsd x / 64 % k, st m 78 63 (nsd x)) := by
  have hn := nsd_rng x
  unfold r_drawOf
  have e : lrm (1103515245 * x + 12345) 2147483648 = nsd x := lrm_nn (by omega) (by omega) (by decide) (by decide)
  rw [hx, e, stf_eq, w32_id (x := k) (by omega) (by omega), if_neg (by omega), ldl_st_eq, w64_id (by omega) (by omega), ldv_nn (by omega) (by omega) (by decide) (by decide), lrm_nn (by omega) (by omega) (by omega) (by omega)]
/-- one turn: how many notes, as all is, the seed -/
abbrev ev : Type := Int × sn × Int
def evN (G : hv) (e : ev) : Int := nsd e.2.2 / 64 % nN G
def ev1 (G : hv) (e : ev) : ev := (if cpb G e.2.1.1 (evN G e) = true then e.1 + 1 else e.1, plS G (if cpb G e.2.1.1 (evN G e) = true then evN G e else 6) e.2.1, nsd (nsd e.2.2))
def ev2 (G : hv) (e : ev) : ev := if ru G ≤ e.2.2 / 64 % 100 then e else (e.1, (sj G e.2.1.1 (nsd e.2.2 / 64 % nL G), e.2.1.2), nsd e.2.2)
def evr (G : hv) : Nat → ev → ev
  | 0, e => e
  | r + 1, e => evr G r (ev2 G (ev1 G e))
def okE (G : hv) (e : ev) : Prop := okS G e.2.1 ∧ 0 ≤ e.2.2 ∧ e.2.2 ≤ 2147483647
theorem okE_1 {G : hv} (w : wfG G) {e : ev} (h : okE G e) : okE G (ev1 G e) := ⟨okS_pl w h.1, nsd_rng _⟩
theorem okE_2 {G : hv} (w : wfG G) (hL : 0 < nL G) {e : ev} (h : okE G e) : okE G (ev2 G e) := by
  unfold ev2
  split
  · exact h
  · obtain ⟨⟨h1, h2, h3, h4⟩, h5, h6⟩ := h
    have r1 := Int.emod_nonneg (nsd e.2.2 / 64) (show nL G ≠ 0 by omega)
    have r2 := Int.emod_lt_of_pos (nsd e.2.2 / 64) hL
    exact ⟨⟨vs_sj w.1 h1 r1 r2, h2, h3, h4⟩, nsd_rng _⟩
theorem okE_r {G : hv} (w : wfG G) (hL : 0 < nL G) : ∀ (r : Nat) {e : ev}, okE G e → okE G (evr G r e)
  | 0, _, h => h
  | r + 1, _, h => okE_r w hL r (okE_2 w hL (okE_1 w h))
def fD (h : Nat) (m m' : xm) : Prop := ∀ a k, a ≠ 22 → ¬ (a = 0 ∧ k = 17) → ¬ (a = h + 1 ∧ k = 3) → a ≠ h + 3 → a ≠ h + 14 → m' a k = m a k
theorem fD_refl {h : Nat} {m : xm} : fD h m m := fun _ _ _ _ _ _ _ => rfl
theorem fD_trans {h : Nat} {m1 m2 m3 : xm} (h1 : fD h m1 m2) (h2 : fD h m2 m3) : fD h m1 m3 := fun a k g1 g2 g3 g4 g5 => by rw [h2 a k g1 g2 g3 g4 g5, h1 a k g1 g2 g3 g4 g5]
theorem fD_fC {h : Nat} {m m' : xm} (f : fC h m m') : fD h m m' := fun a k g1 _ g3 g4 g5 => f a k g1 g3 g4 g5
theorem fD_sd {h : Nat} {m : xm} {v : Int} : fD h m (st m 0 17 v) := fun a k _ g _ _ _ => st_at g
theorem fD_CH {h : Nat} {m m' : xm} {G : hv} (p : isH h) (f : fD h m m') (H : CH m h G) : CH m' h G := by
  have := isH_rng p
  exact CH_cg H (fun a k z => ldq (f a k (by rcases z with rfl | ⟨z1, z2⟩ | ⟨rfl, z⟩ <;> omega) (by rcases z with rfl | ⟨z1, z2⟩ | ⟨rfl, z⟩ <;> omega) (by rcases z with rfl | ⟨z1, z2⟩ | ⟨rfl, z⟩ <;> omega) (by rcases z with rfl | ⟨z1, z2⟩ | ⟨rfl, z⟩ <;> omega) (by rcases z with rfl | ⟨z1, z2⟩ | ⟨rfl, z⟩ <;> omega)))
theorem fD_hl {h : Nat} {m m' : xm} (p : isH h) (f : fD h m m') (hh : hl m 12 = h) : hl m' 12 = h := by
  have := isH_rng p
  rw [hl_cg (f 0 12 (by decide) (by decide) (by omega) (by omega) (by omega)), hh]
section EV
variable {G : hv} {h : Nat}
theorem eve_2 (p : isH h) (w : wfG G) (hL : 0 < nL G) {m : xm} {e : ev} (hh : hl m 12 = h) (c : CH m h G) (M : CM m h G) (hE : okE G e) (s : SC m 22 e.2.1) (hx : nsd (ldl m 0 17) = e.2.2) (hx0 : 0 ≤ ldl m 0 17 ∧ ldl m 0 17 ≤ 2147483647) (k39 : Int → Int → Int → xm → xr) (v1 v2 v3 : Int) : ∃ m', cL_evening_95 k39 v1 v2 v3 m = k39 v1 v2 (v3 + 1) m' ∧ fD h m m' ∧ CM m' h G ∧ SC m' 22 (ev2 G e).2.1 ∧ ldl m' 0 17 = (ev2 G e).2.2 := by
  have pr := isH_rng p
  have gR := w.2.2.2.2.1
  have gL := w.1.2.1
  obtain ⟨⟨k1, k2, k3, k4⟩, k5, k6⟩ := hE
  have hh1 : hl (st m 0 17 e.2.2) 12 = h := fD_hl p fD_sd hh
  have c1 : CH (st m 0 17 e.2.2) h G := fD_CH p fD_sd c
  have M1 : CM (st m 0 17 e.2.2) h G := CM_cg M (fun k => st_at (by omega))
  have s1 : SC (st m 0 17 e.2.2) 22 e.2.1 := SC_cg s (fun k => st_at (by omega))
  have x1 : ldl (st m 0 17 e.2.2) 0 17 = e.2.2 := by rw [ldl_st_eq, w64_id (by omega) (by omega)]
  have r0 : 0 ≤ e.2.2 / 64 % 100 ∧ e.2.2 / 64 % 100 < 100 := by omega
  unfold cL_evening_95 cL_evening_144 cH_rust ev2
  rw [cL_draw_ok rfl hx0.1 hx0.2 (by decide) (by decide), bnd_some, hx, hh1, bnd_some, ch_ru c1, w32_id (x := ru G) (by omega) (by omega), w32_id (x := e.2.2 / 64 % 100) (by omega) (by omega)]
  by_cases q : ru G ≤ e.2.2 / 64 % 100
  · rw [if_pos q, if_pos q]
    exact ⟨_, rfl, fD_sd, M1, s1, x1⟩
  · have hn := nsd_rng e.2.2
    have r1 := Int.emod_nonneg (nsd e.2.2 / 64) (show nL G ≠ 0 by omega)
    have r2 := Int.emod_lt_of_pos (nsd e.2.2 / 64) hL
    have hs : ld (st m 0 17 e.2.2) 22 0 = e.2.1.1 := s1.1
    have c2 : CH (st (st m 0 17 e.2.2) 0 17 (nsd e.2.2)) h G := fD_CH p fD_sd c1
    have vt := vs_sj w.1 k1 r1 r2
    have rt := vs_s w.1 vt
    rw [if_neg q, if_neg q, cY_state_ok, bnd_some, hs, hh1, cH_count_ok p c1 (by decide) (by decide), bnd_some, cL_draw_ok x1 k5 k6 (show 0 < G 0 0 from hL) (by unfold nL at gL; omega), bnd_some, cH_withJam_ok w.1 c2 k1 (show 0 ≤ nsd e.2.2 / 64 % G 0 0 from r1) (show nsd e.2.2 / 64 % G 0 0 < 4 by have : nsd e.2.2 / 64 % G 0 0 < nL G := r2; omega), bnd_some, cY_goTo_ok, bnd_some]
    refine ⟨_, rfl, fD_trans fD_sd (fD_trans fD_sd (fD_fC (fC_22 f22_st))), ?_, ?_, ?_⟩
    · exact CM_cg M1 (fun k => by rw [st_at (by omega), st_at (by omega)])
    · obtain ⟨z1, z2, z3, z4⟩ := s1
      have := SC_go (s := e.2.1.1) (pl := e.2.1.2.1) (L := e.2.1.2.2) (m := st (st m 0 17 e.2.2) 0 17 (nsd e.2.2)) (SC_cg (S := e.2.1) ⟨z1, z2, z3, z4⟩ (fun k => st_at (by omega))) (v := sj G e.2.1.1 (nsd e.2.2 / 64 % nL G)) ⟨by omega, by omega⟩
      exact this
    · rw [ldl_st_nc (by decide), ldl_st_eq, w64_id (by omega) (by omega)]
theorem eve_loop (p : isH h) (w : wfG G) (hD : wfD G) (hL : 0 < nL G) (hNn : 0 < nN G) {n : Int} (h50 : n ≤ 50) : ∀ (r f : Nat) {m : xm} {e : ev}, (r : Int) ≤ n → r < f → hl m 12 = h → CH m h G → CM m h G → okE G e → SC m 22 e.2.1 → ldl m 0 17 = e.2.2 → ∃ m', cL_evening_39 f n e.1 (n - (r : Int)) m = some ((evr G r e).1, m') ∧ fD h m m' ∧ CM m' h G ∧ SC m' 22 (evr G r e).2.1 ∧ ldl m' 0 17 = (evr G r e).2.2 := by
  have pr := isH_rng p
  have gN := w.2.1
  intro r
  induction r with
  | zero =>
    intro f m e hr hf hh c M hE s hx
    obtain ⟨f, rfl⟩ : ∃ f', f = f' + 1 := ⟨f - 1, by omega⟩
    rw [cL_evening_39, w32_id (x := n) (by omega) (by omega), w32_id (x := n - ((0 : Nat) : Int)) (by omega) (by omega), if_pos (by omega)]
    exact ⟨m, rfl, fD_refl, M, s, hx⟩
  | succ r ih =>
    intro f m e hr hf hh c M hE s hx
    obtain ⟨f, rfl⟩ : ∃ f', f = f' + 1 := ⟨f - 1, by omega⟩
    obtain ⟨k5, k6⟩ := hE.2
    have hn := nsd_rng e.2.2
    have r1 := Int.emod_nonneg (nsd e.2.2 / 64) (show nN G ≠ 0 by omega)
    have r2 := Int.emod_lt_of_pos (nsd e.2.2 / 64) hNn
    have eN : nsd e.2.2 / 64 % G 0 1 = evN G e := rfl
    have hs : ld (st m 0 17 (nsd e.2.2)) 22 0 = e.2.1.1 := by rw [ld_st_nc (by decide)]; exact s.1
    have c1 : CH (st m 0 17 (nsd e.2.2)) h G := fD_CH p fD_sd c
    have M1 : CM (st m 0 17 (nsd e.2.2)) h G := CM_cg M (fun k => st_at (by omega))
    have s1 : SC (st m 0 17 (nsd e.2.2)) 22 e.2.1 := SC_cg s (fun k => st_at (by omega))
    have hh1 : hl (st m 0 17 (nsd e.2.2)) 12 = h := fD_hl p fD_sd hh
    have evr0 : 0 ≤ evN G e ∧ evN G e < nN G := ⟨r1, r2⟩
    rw [cL_evening_39, w32_id (x := n) (by omega) (by omega), w32_id (x := n - ((r + 1 : Nat) : Int)) (by omega) (by omega), if_neg (by omega), hh, cH_count_ok p c (by decide) (by decide), bnd_some, cL_draw_ok hx k5 k6 (show 0 < G 0 1 from hNn) (by unfold nN at gN; omega), bnd_some, eN, cY_state_ok, bnd_some, hs, hh1]
    have x1 : ldl (st m 0 17 (nsd e.2.2)) 0 17 = nsd e.2.2 := by rw [ldl_st_eq, w64_id (by omega) (by omega)]
    have goOn : ∀ (nt cc : Int), ntk G nt → ev1 G e = (cc, plS G nt e.2.1, nsd (nsd e.2.2)) → ∃ m', (bnd (cL_playOne nt (st m 0 17 (nsd e.2.2))) fun r11 m12 => cL_evening_95 (fun v1 v2 v3 m => cL_evening_39 f v1 v2 v3 m) n cc (n - ((r + 1 : Nat) : Int)) m12) = some ((evr G (r + 1) e).1, m') ∧ fD h m m' ∧ CM m' h G ∧ SC m' 22 (evr G (r + 1) e).2.1 ∧ ldl m' 0 17 = (evr G (r + 1) e).2.2 := by
      intro nt cc hnt he
      obtain ⟨m1, b1, b2, b3, b4⟩ := cL_playOne_ok hh1 p w hD c1 M1 hE.1 s1 hnt
      have x2 : ldl m1 0 17 = nsd e.2.2 := by rw [ldlq (b2 0 17 (by decide) (by omega) (by omega) (by omega)), x1]
      have okb := okE_1 w hE
      obtain ⟨m2, g1, g2, g3, g4, g5⟩ := eve_2 p w hL (m := m1) (e := ev1 G e) (fD_hl p (fD_fC b2) hh1) (fC_CH p b2 c1) b3 okb (by rw [he]; exact b4) (by rw [x2, he]) (by rw [x2]; exact hn) (fun v1 v2 v3 m => cL_evening_39 f v1 v2 v3 m) n cc (n - ((r + 1 : Nat) : Int))
      obtain ⟨m3, q1, q2, q3, q4, q5⟩ := ih f (m := m2) (e := ev2 G (ev1 G e)) (by omega) (by omega) (fD_hl p g2 (fD_hl p (fD_fC b2) hh1)) (fD_CH p g2 (fC_CH p b2 c1)) g3 (okE_2 w hL okb) g4 g5
      refine ⟨m3, ?_, fD_trans fD_sd (fD_trans (fD_fC b2) (fD_trans g2 q2)), q3, q4, q5⟩
      rw [b1, bnd_some, g1, show n - ((r + 1 : Nat) : Int) + 1 = n - (r : Int) by omega]
      have e1 : (ev2 G (ev1 G e)).1 = cc := by
        unfold ev2
        rw [he]
        split <;> rfl
      rw [e1] at q1
      exact q1
    by_cases q : cp G e.2.1.1 (evN G e)
    · have qb := cpb_iff.mpr q
      rw [cH_canPlay_in p w c1 hE.1.1 q, bnd_some, if_neg (by decide)]
      exact goOn (evN G e) (e.1 + 1) (Or.inr evr0) (by unfold ev1; rw [if_pos qb, if_pos qb])
    · have qb : ¬ cpb G e.2.1.1 (evN G e) = true := fun z => q (cpb_iff.mp z)
      rw [cH_canPlay_out p w c1 hE.1.1 (by rw [w32_id (x := evN G e) (by omega) (by omega)]; exact q), bnd_some, if_pos (by decide)]
      exact goOn 6 e.1 (Or.inl rfl) (by unfold ev1; rw [if_neg qb, if_neg qb])
/-! the reference -/
def fW (m m' : xm) : Prop := ∀ a k, a ≠ 110 → ¬ (a = 78 ∧ (k = 90 ∨ k = 63)) → a ≠ 140 → m' a k = m a k
theorem fW_refl {m : xm} : fW m m := fun _ _ _ _ _ => rfl
theorem fW_trans {m1 m2 m3 : xm} (h1 : fW m1 m2) (h2 : fW m2 m3) : fW m1 m3 := fun a k g1 g2 g3 => by rw [h2 a k g1 g2 g3, h1 a k g1 g2 g3]
theorem fW_fR {m m' : xm} (f : fR m m') : fW m m' := fun a k g1 g2 g3 => f a k g1 (fun z => g2 ⟨z.1, Or.inl z.2⟩) g3
theorem fW_sd {m : xm} {v : Int} : fW m (st m 78 63 v) := fun a k _ g _ => st_at (fun z => g ⟨z.1, Or.inr z.2⟩)
theorem fW_RH {m m' : xm} (f : fW m m') (H : RH m G) : RH m' G := RH_cg H (fun a k g1 g2 _ => ldq (f a k (by omega) (by omega) (by omega)))
theorem reve_2 (w : wfG G) (hL : 0 < nL G) {m : xm} {e : ev} (H : RH m G) (hE : okE G e) (s : SR m G 110 0 e.2.1) (hx : nsd (ldl m 78 63) = e.2.2) (hx0 : 0 ≤ ldl m 78 63 ∧ ldl m 78 63 ≤ 2147483647) (k33 : Int → Int → Int → xm → xr) (v1 v2 v3 : Int) : ∃ m', r_evening_80 k33 v1 v2 v3 m = k33 v1 v2 (v3 + 1) m' ∧ fW m m' ∧ SR m' G 110 0 (ev2 G e).2.1 ∧ ldl m' 78 63 = (ev2 G e).2.2 := by
  have gR := w.2.2.2.2.1
  have gL := w.1.2.1
  obtain ⟨⟨k1, k2, k3, k4⟩, k5, k6⟩ := hE
  have H1 : RH (st m 78 63 e.2.2) G := fW_RH fW_sd H
  have s1 : SR (st m 78 63 e.2.2) G 110 0 e.2.1 := SR_all s (fun k => st_at (by omega))
  have x1 : ldl (st m 78 63 e.2.2) 78 63 = e.2.2 := by rw [ldl_st_eq, w64_id (by omega) (by omega)]
  have r0 : 0 ≤ e.2.2 / 64 % 100 ∧ e.2.2 / 64 % 100 < 100 := by omega
  unfold r_evening_80 r_evening_114 ev2
  rw [r_drawOf_ok rfl hx0.1 hx0.2 (by decide) (by decide), bnd_some, hx, ial_in (by decide) (by rw [al106]; decide), H1.2.1, w32_id (x := ru G) (by omega) (by omega), w32_id (x := e.2.2 / 64 % 100) (by omega) (by omega)]
  by_cases q : ru G ≤ e.2.2 / 64 % 100
  · rw [if_pos q, if_pos q]
    exact ⟨_, rfl, fW_sd, s1, x1⟩
  · have hn := nsd_rng e.2.2
    have r1 := Int.emod_nonneg (nsd e.2.2 / 64) (show nL G ≠ 0 by omega)
    have r2 := Int.emod_lt_of_pos (nsd e.2.2 / 64) hL
    have hj := vs_j w.1 k1
    have vt := vs_sj w.1 k1 r1 r2
    have hj2 := vs_j w.1 vt
    have sjk := sj_ok w.1 (s := e.2.1.1) (l := nsd e.2.2 / 64 % nL G)
    have h5 : ld (st m 78 63 e.2.2) 110 5 = jm G e.2.1.1 := s1.2.1
    rw [if_neg q, if_neg q, ial_in (by decide) (by rw [al110]; decide), h5, r_lockMany_ok H1, bnd_some, r_drawOf_ok x1 k5 k6 hL (by omega), bnd_some, ias_in (by decide) (by rw [al110]; decide), bor_sb hj.1 (by omega) r1 (by omega)]
    refine ⟨_, rfl, fW_trans fW_sd (fW_trans fW_sd (fW_fR fR_st)), ?_, ?_⟩
    · obtain ⟨y1, y2, y3, y4, y5⟩ := s1
      refine ⟨fun l q1 q2 => ?_, ?_, ?_, ?_, fun i hi => ?_⟩
      · rw [ld_st_ne (by omega), ld_st_nc (by decide), sjk.1 l q1 (by omega)]
        exact y1 l q1 q2
      · rw [show (0 : Int) + 5 = 5 by rfl, ld_st_eq, sjk.2, w32_id (by rw [← sjk.2]; omega) (by rw [← sjk.2]; omega)]
      · rw [ld_st_ne (by decide), ld_st_nc (by decide)]
        exact y3
      · rw [ld_st_ne (by decide), ld_st_nc (by decide)]
        exact y4
      · rw [ld_st_ne (by omega), ld_st_ne (by omega), ld_st_ne (by omega), ld_st_nc (by decide), ld_st_nc (by decide), ld_st_nc (by decide)]
        exact y5 i hi
    · rw [ldl_st_nc (by decide), ldl_st_eq, w64_id (by omega) (by omega)]
theorem reve_loop (w : wfG G) (hD : wfD G) (hL : 0 < nL G) (hNn : 0 < nN G) {n : Int} (h50 : n ≤ 50) : ∀ (r f : Nat) {m : xm} {e : ev}, (r : Int) ≤ n → r < f → RH m G → okE G e → SR m G 110 0 e.2.1 → ldl m 78 63 = e.2.2 → ∃ m', r_evening_33 f n e.1 (n - (r : Int)) m = some ((evr G r e).1, m') ∧ fW m m' ∧ SR m' G 110 0 (evr G r e).2.1 ∧ ldl m' 78 63 = (evr G r e).2.2 := by
  have gN := w.2.1
  intro r
  induction r with
  | zero =>
    intro f m e hr hf H hE s hx
    obtain ⟨f, rfl⟩ : ∃ f', f = f' + 1 := ⟨f - 1, by omega⟩
    rw [r_evening_33, w32_id (x := n) (by omega) (by omega), w32_id (x := n - ((0 : Nat) : Int)) (by omega) (by omega), if_pos (by omega)]
    exact ⟨m, rfl, fW_refl, s, hx⟩
  | succ r ih =>
    intro f m e hr hf H hE s hx
    obtain ⟨f, rfl⟩ : ∃ f', f = f' + 1 := ⟨f - 1, by omega⟩
    obtain ⟨k5, k6⟩ := hE.2
    have hn := nsd_rng e.2.2
    have r1 := Int.emod_nonneg (nsd e.2.2 / 64) (show nN G ≠ 0 by omega)
    have r2 := Int.emod_lt_of_pos (nsd e.2.2 / 64) hNn
    have eN : nsd e.2.2 / 64 % nN G = evN G e := rfl
    have H1 : RH (st m 78 63 (nsd e.2.2)) G := fW_RH fW_sd H
    have s1 : SR (st m 78 63 (nsd e.2.2)) G 110 0 e.2.1 := SR_all s (fun k => st_at (by omega))
    have evr0 : 0 ≤ evN G e ∧ evN G e < nN G := ⟨r1, r2⟩
    have x1 : ldl (st m 78 63 (nsd e.2.2)) 78 63 = nsd e.2.2 := by rw [ldl_st_eq, w64_id (by omega) (by omega)]
    have rc := r_canPlay_ok w H1 hE.1.1 (SR_NR s1) (n := evN G e) (Or.inr evr0)
    rw [r_evening_33, w32_id (x := n) (by omega) (by omega), w32_id (x := n - ((r + 1 : Nat) : Int)) (by omega) (by omega), if_neg (by omega), r_noteMany_ok H, bnd_some, r_drawOf_ok hx k5 k6 hNn (by omega), bnd_some, eN]
    have goOn : ∀ (nt cc v5 : Int), ntk G nt → (if w32 v5 = 0 then e.1 else e.1 + 1) = cc → ev1 G e = (cc, plS G nt e.2.1, nsd (nsd e.2.2)) → ∃ m', r_evening_69 (fun v1 v2 v3 m => r_evening_33 f v1 v2 v3 m) n e.1 (n - ((r + 1 : Nat) : Int)) v5 nt (st m 78 63 (nsd e.2.2)) = some ((evr G (r + 1) e).1, m') ∧ fW m m' ∧ SR m' G 110 0 (evr G (r + 1) e).2.1 ∧ ldl m' 78 63 = (evr G (r + 1) e).2.2 := by
      intro nt cc v5 hnt hcc he
      obtain ⟨m1, b1, b2, b4⟩ := r_isPlayed_ok w hD H1 hE.1 s1 hnt
      have x2 : ldl m1 78 63 = nsd e.2.2 := by rw [ldlq (b2 78 63 (by decide) (by decide) (by decide)), x1]
      have okb := okE_1 w hE
      obtain ⟨m2, g1, g2, g4, g5⟩ := reve_2 w hL (m := m1) (e := ev1 G e) (fR_RH b2 H1) okb (by rw [he]; exact b4) (by rw [x2, he]) (by rw [x2]; exact hn) (fun v1 v2 v3 m => r_evening_33 f v1 v2 v3 m) n cc (n - ((r + 1 : Nat) : Int))
      obtain ⟨m3, q1, q2, q4, q5⟩ := ih f (m := m2) (e := ev2 G (ev1 G e)) (by omega) (by omega) (fW_RH g2 (fR_RH b2 H1)) (okE_2 w hL okb) g4 g5
      refine ⟨m3, ?_, fW_trans fW_sd (fW_trans (fW_fR b2) (fW_trans g2 q2)), q4, q5⟩
      have e1 : (ev2 G (ev1 G e)).1 = cc := by
        unfold ev2
        rw [he]
        split <;> rfl
      rw [e1] at q1
      unfold r_evening_69
      rw [b1, bnd_some]
      have e80 : (if w32 v5 = 0 then r_evening_80 (fun v1 v2 v3 m => r_evening_33 f v1 v2 v3 m) n e.1 (n - ((r + 1 : Nat) : Int)) m1 else r_evening_80 (fun v1 v2 v3 m => r_evening_33 f v1 v2 v3 m) n (e.1 + 1) (n - ((r + 1 : Nat) : Int)) m1) = r_evening_80 (fun v1 v2 v3 m => r_evening_33 f v1 v2 v3 m) n cc (n - ((r + 1 : Nat) : Int)) m1 := by
        rw [← hcc]
        split <;> rfl
      rw [e80, g1, show n - ((r + 1 : Nat) : Int) + 1 = n - (r : Int) by omega]
      exact q1
    by_cases q : cp G e.2.1.1 (evN G e)
    · have qb := cpb_iff.mpr q
      rw [rc.1 q, bnd_some, if_neg (by decide)]
      exact goOn (evN G e) (e.1 + 1) 1 (Or.inr evr0) rfl (by unfold ev1; rw [if_pos qb, if_pos qb])
    · have qb : ¬ cpb G e.2.1.1 (evN G e) = true := fun z => q (cpb_iff.mp z)
      rw [rc.2 q, bnd_some, if_pos (by decide)]
      exact goOn 6 e.1 0 (Or.inl rfl) rfl (by unfold ev1; rw [if_neg qb, if_neg qb])
end EV
theorem ok_evening {v : Int} (hv : rg v) : okI (cL_evening v) (r_evening v) := by
  intro m hi
  obtain ⟨G, H⟩ := hi
  have H0 : IG m G := H
  obtain ⟨⟨w, hD, -, c, M, r, -⟩, S0, P0, T, -, R, -, -, -, -, E⟩ := H0
  obtain ⟨S, s1, s2, s3⟩ := SN_to S0
  obtain ⟨n, P, p1, p2, p3⟩ := PS_to P0
  have hL := w.1.2.1
  have gN := w.2.1
  obtain ⟨h, hh⟩ : ∃ h, hl m 12 = h := ⟨_, rfl⟩
  have p := hl_or m 12
  rw [hh] at p c M
  have pr := isH_rng p
  obtain ⟨x1, x2, x3⟩ := E
  obtain ⟨v1, v2⟩ := hv
  by_cases hc : (1 ≤ v ∧ v ≤ 50) ∧ 0 < nN G
  · obtain ⟨⟨hv1, hv2⟩, hn0⟩ := hc
    have hL0 := w.2.2.2.2.2.2.2.1 hn0
    obtain ⟨mA, a1, a2, a3⟩ := cY_beginAct_ok p1.1 p1.2.1 s1.2.2.1 s2 p2
    have hhA : hl mA 12 = h := by rw [hl_cg (a2 0 12 (by decide) (by decide)), hh]
    have cA : CH mA h G := CH_cg c (fun a k z => ldq (a2 a k (by rcases z with rfl | ⟨z1, z2⟩ | ⟨rfl, z⟩ <;> omega) (by rcases z with rfl | ⟨z1, z2⟩ | ⟨rfl, z⟩ <;> omega)))
    have MA : CM mA h G := CM_cg M (fun k => a2 _ k (by omega) (by omega))
    have okE0 : okE G (0, S, ldl m 0 17) := ⟨s1, x2, x3⟩
    obtain ⟨mB, b1, b2, b3, b4, b5⟩ := eve_loop p w hD hL0 hn0 (n := v) hv2 v.toNat xLF (m := mA) (e := (0, S, ldl m 0 17)) (by omega) (by rw [xLF_eq]; omega) hhA cA MA okE0 (SC_cg s2 (fun k => a2 22 k (by decide) (by omega))) (by rw [ldlq (a2 0 17 (by decide) (by decide))])
    rw [show v - (v.toNat : Int) = 0 by omega] at b1
    have eC : cL_evening v m = some ((evr G v.toNat (0, S, ldl m 0 17)).1, mB) := by
      unfold cL_evening
      rw [w32_id v1 v2, if_neg (by omega), if_neg (by omega), hh, cH_count_ok p c (by decide) (by decide), bnd_some, w32_id (x := G 0 1) (by unfold nN at gN; omega) (by unfold nN at gN; omega), if_neg (by unfold nN at hn0; omega), a1, bnd_some]
      exact b1
    have frC : ∀ a k, a ≠ 22 → ¬ fPS a k → ¬ fSE a k → ¬ (a = h + 1 ∧ k = 3) → a ≠ h + 3 → a ≠ h + 14 → mB a k = m a k := fun a k y1 y2 y3 y5 y6 y7 => by
      unfold fPS at y2
      unfold fSE at y3
      rw [b2 a k y1 (by omega) y5 y6 y7, a2 a k (by omega) (by omega)]
    have frR : ∀ a, 78 ≤ a → mB a = m a := fun a z => by
      funext k
      rw [b2 a k (by omega) (by omega) (by omega) (by omega) (by omega), a2 a k (by omega) (by omega)]
    have rB : RH mB G := RH_cg r (fun a k g1 _ _ => ld_cg (frR a (by omega)) k)
    have sB : SR mB G 110 0 S := SR_all s3 (fun k => by rw [frR 110 (by decide)])
    have qB : PR mB G n P := PR_cg hL p1 p3 (fun k => by rw [frR 118 (by decide)]) (by rw [frR 78 (by decide)]) (by rw [frR 78 (by decide)])
    obtain ⟨mD, e1, e2, e3⟩ := r_keeps_ok hL p1 s1 sB qB
    have rD : RH mD G := RH_cg rB (fun a k _ _ _ => ldq (e2 a k (by omega) (by omega)))
    obtain ⟨mE, g1, g2, g3, g4⟩ := reve_loop w hD hL0 hn0 (n := v) hv2 v.toNat xLF (m := mD) (e := (0, S, ldl m 0 17)) (by omega) (by rw [xLF_eq]; omega) rD okE0 (SR_all sB (fun k => e2 110 k (by decide) (by omega))) (by rw [ldlq (e2 78 63 (by decide) (by decide)), ldl_cg (frR 78 (by decide)), ← x1])
    rw [show v - (v.toNat : Int) = 0 by omega] at g1
    have eR : r_evening v mB = some ((evr G v.toNat (0, S, ldl m 0 17)).1, mE) := by
      unfold r_evening
      rw [w32_id v1 v2, r_isIn_ok (by omega) (by omega) (by omega) (by omega) (by omega) (by omega), bnd_some, if_pos (show 1 ≤ v ∧ v ≤ 50 from ⟨hv1, hv2⟩), if_neg (by decide), r_noteMany_ok rB, bnd_some, w32_id (x := nN G) (by omega) (by omega), if_neg (by omega), e1, bnd_some]
      exact g1
    have frF : ∀ a k, a ≠ 110 → ¬ fPS a k → ¬ fSE a k → ¬ scr a k → mE a k = mB a k := fun a k y1 y2 y3 y4 => by
      unfold fPS at y2
      unfold fSE at y3
      unfold scr at y4
      rw [g2 a k y1 (by omega) (by omega), e2 a k (by omega) (by omega)]
    have frFc : ∀ a, a < 78 → mE a = mB a := fun a z => by
      funext k
      rw [g2 a k (by omega) (by omega) (by omega), e2 a k (by omega) (by omega)]
    have okR := okE_r w hL0 v.toNat okE0
    have q2 : PR mE G (adn n) (adP n P S) := PR_cg hL (okP_ad p1 s1) e3 (fun k => g2 118 k (by omega) (by omega) (by omega)) (g2 78 61 (by decide) (by decide) (by decide)) (g2 78 62 (by decide) (by decide) (by decide))
    refine ⟨_, mB, _, mE, eC, eR, rfl, ⟨G, IG_acted hh H (fun a k z1 z2 _ _ z3 _ z5 z6 z7 => frC a k z1 z2 z3 z5 z6 z7) frR (fun a k z1 z2 _ _ z3 z4 => frF a k z1 z2 z3 z4) frFc b3 okR.1 b4 g3 (okP_ad p1 s1) (PC_cg a3 (fun a k z => b2 a k (by omega) (by omega) (by omega) (by omega) (by omega))) q2 ?_ ?_ ?_⟩⟩
    · refine TP_cg T (fun a k z => ?_)
      unfold fTP at z
      rw [frF a k (by omega) (by unfold fPS; omega) (by unfold fSE; omega) (by unfold scr; omega), frC a k (by omega) (by unfold fPS; omega) (by unfold fSE; omega) (by omega) (by omega) (by omega)]
    · refine RF_cg R (fun a k z => ?_)
      unfold fRF at z
      rw [frF a k (by omega) (by unfold fPS; omega) (by unfold fSE; omega) (by unfold scr; omega), frC a k (by omega) (by unfold fPS; omega) (by unfold fSE; omega) (by omega) (by omega) (by omega)]
    · unfold SE
      rw [ldl_cg (frFc 0 (by decide)), b5, g4]
      exact ⟨rfl, okR.2⟩
  · refine ok_ref H (k := 3) (r := -1) (r' := -1) (by decide) (by decide) ?_ (fun x => ?_) rfl
    · have e22 : cL_evening_22 m = some (-1, st m 47 3 (ld m 47 3 + 1)) := by
        unfold cL_evening_22
        rw [cL_refuse_ok (by decide) (by decide), bnd_some]
      unfold cL_evening
      rw [w32_id v1 v2, hh, cH_count_ok p c (by decide) (by decide), bnd_some, w32_id (x := G 0 1) (by unfold nN at gN; omega) (by unfold nN at gN; omega), e22]
      by_cases q1 : v < 1
      · rw [if_pos q1]
      · rw [if_neg q1]
        by_cases q2 : 50 < v
        · rw [if_pos q2]
        · rw [if_neg q2, if_pos (show G 0 1 = 0 by unfold nN at hc gN; omega)]
    · have rC : RH (st m 47 3 x) G := RH_cg r (fun a k g1 _ _ => ld_st_nc (by omega))
      have e19 : r_evening_19 (st m 47 3 x) = some (-1, st (st m 47 3 x) 80 3 (ld m 80 3 + 1)) := by
        unfold r_evening_19
        rw [r_refuses_ok (by decide) (by decide), bnd_some, ld_st_nc (by decide)]
      unfold r_evening
      rw [w32_id v1 v2, r_isIn_ok (by omega) (by omega) (by omega) (by omega) (by omega) (by omega), bnd_some]
      by_cases q1 : 1 ≤ v ∧ v ≤ 50
      · rw [if_pos q1, if_neg (by decide), r_noteMany_ok rC, bnd_some, w32_id (x := nN G) (by omega) (by omega), if_pos (by omega), e19]
      · rw [if_neg q1, if_pos (by decide), e19]
