/-! the run of a method, whole -/
section AMT
variable {D : va_G} {B : Nat} {ra : Nat → Nat} {cA : Nat → ClassId} {E : am_Env} {n0 n1 z1 d : Nat} {M N : am_M} {p : Program} {l : Launch} {e : Env} {R : Room} {s : State} {m : MethodId} {args : Array Value} {below : List Frame} {meth : Method} {c : Code} {Q : State → Prop}
theorem am_mk_sz {i : Instr} {pc : Nat} {ls : am_L} {st : List Value} {hp : am_H} {C1 : am_C} (h : am_mk M i pc ls st hp = some C1) : hp.length ≤ C1.2.2.2.length ∧ am_sz hp ≤ am_sz C1.2.2.2 := by
  unfold am_mk at h
  (repeat' split at h) <;> first | (cases h; done) | (cases h; exact ⟨by simp, by simp only [am_sz_app]; omega⟩)
theorem am_mk_ok {i : Instr} (F : am_Fr D B ra cA E n0 d M p R s m args meth c) {nn : Nat} {C C1 : am_C} (hdg0 : decode (am_cc M) C.1 = .ok (i, nn)) (hn : am_ln i = 0 ∨ nn = am_ln i) (h : am_mk M i C.1 C.2.1 C.2.2.1 C.2.2.2 = some C1) (h0 : n0 ≤ C.2.2.2.length) (hn1 : C1.2.2.2.length ≤ n1) (hz1 : am_sz C1.2.2.2 ≤ z1) (kk : am_AW D B ra cA n0 n1 z1 M p l e R s m args below meth c Q C1) : am_AW D B ra cA n0 n1 z1 M p l e R s m args below meth c Q C := by
  cases i with
  | new x => exact am_o_new x F hdg0 hn h hn1 hz1 kk
  | newarray t =>
    cases t with
    | int => exact am_o_newa_int F hdg0 hn h hn1 hz1 kk
    | long => exact am_o_newa_long F hdg0 hn h hn1 hz1 kk
    | char => exact am_o_newa_char F hdg0 hn h hn1 hz1 kk
    | _ => simp only [am_mk, am_na0] at h; (repeat' split at h) <;> cases h
  | multianewarray x k => exact am_o_mna x k F hdg0 hn h h0 hn1 hz1 kk
  | _ => simp [am_mk] at h
theorem am_run_mono : ∀ (fu d : Nat) (M : am_M) (pc : Nat) (ls : am_L) (st : List Value) (hp : am_H) (r : Option Value) (hp1 : am_H), am_run E fu d M pc ls st hp = some (r, hp1) → hp.length ≤ hp1.length ∧ am_sz hp ≤ am_sz hp1 := by
  intro fu
  induction fu with
  | zero => intro d M pc ls st hp r hp1 h; cases h
  | succ fu ih =>
    intro d M pc ls st hp r hp1 h
    unfold am_run at h
    split at h
    · cases h
    · next i hi =>
      split at h
      · cases h
        exact ⟨Nat.le_refl _, Nat.le_refl _⟩
      · split at h
        · next j v hcal =>
          split at h
          · next d' N hN =>
            split at h
            · split at h
              · next r1 hp2 hrun =>
                have a1 := ih _ _ _ _ _ _ _ _ hrun
                have a2 := ih _ _ _ _ _ _ _ _ h
                omega
              · cases h
            · cases h
          · cases h
        · split at h
          · next pc' ls' st' hp' hone =>
            have a1 := am_one_sz hone
            have a2 := ih _ _ _ _ _ _ _ _ h
            have a3 : hp'.length = hp.length := a1.1
            have a4 : am_sz hp' = am_sz hp := a1.2
            omega
          · split at h
            · next pc' ls' st' hp' hmk =>
              have a1 := am_mk_sz hmk
              have a2 := ih _ _ _ _ _ _ _ _ h
              have a3 : hp.length ≤ hp'.length := a1.1
              have a4 : am_sz hp ≤ am_sz hp' := a1.2
              omega
            · cases h
/-- a return -/
theorem am_ret_ok {i : Instr} {r : Option Value} {hp hp1 : am_H} {pc : Nat} {ls : am_L} {st : List Value} {as : Array Value} (hcell : R.cells = hp1.length - hp.length) (hslot : R.slots = am_sz hp1 - am_sz hp) (hm : hp.length ≤ hp1.length ∧ am_sz hp ≤ am_sz hp1) (F : am_Fr D B ra cA E hp.length d M p R s m as meth c) (hi : (am_cd M).lookup pc = some i) (h : am_ret M i st = some r) :
    am_AW D B ra cA hp.length hp1.length (am_sz hp1) M p l e R s m as below meth c (MQ below (am_Qc D B ra cA r hp1) as s (hp1.length - hp.length) (am_sz hp1 - am_sz hp) (fun q => B ≤ q)) (pc, ls, st, hp1) := by
  intro H locs lsA cells slots hP hS hl hc hs hnn
  obtain ⟨hx, hb, hml, hown, hts, hK, hro, hr, hlk, hini, hB, hR1, hR2, hok, hR3, hR4⟩ := F
  obtain ⟨nn, hdg0, hn⟩ := am_dec hok hi
  have hcl : cells + hp.length = hp1.length := hc
  have hsl : slots + am_sz hp1 ≤ R.slots + am_sz hp1 := hs
  refine W.widen (k := hp1.length - hp.length) (n := am_sz hp1 - am_sz hp) (by omega) (by omega) ?_
  have hq : ∀ (v : Option Value), r.map (am_v B ra) = v → ∀ t : State, t.heap = H → s.WarmedH t.vm → am_Qc D B ra cA r hp1 as s (.returned v) t := fun v hv t ht hW => ⟨⟨by rw [hv], by rw [ht]; exact hP⟩, hS.F ht⟩
  unfold am_ret at h
  split at h
  · obtain rfl : nn = 1 := hn.resolve_left (by simp [am_ln])
    split at h
    · next hrt =>
      cases h
      exact W.vret hx hb (hr.trans hrt) (hq none rfl) hS.2.2 hdg0 hlk
    · cases h
  · obtain rfl : nn = 1 := hn.resolve_left (by simp [am_ln])
    split at h
    · next x ty hrt =>
      split at h
      · next hnar =>
        cases h
        exact W.zret hx hb (hr.trans hrt) (am_nar_ok hnar) (hq (some (.int x)) rfl) hS.2.2 hdg0 hlk
      · cases h
    · cases h
  · obtain rfl : nn = 1 := hn.resolve_left (by simp [am_ln])
    split at h
    · next x hrt =>
      cases h
      exact W.lret hx hb (hr.trans hrt) (hq (some (.long x)) rfl) hS.2.2 hdg0 hlk
    · cases h
  · obtain rfl : nn = 1 := hn.resolve_left (by simp [am_ln])
    split at h
    · next x o hrt =>
      cases h
      exact W.aret hx hb (hr.trans hrt) (Or.inl ⟨_, rfl⟩) (Or.inr ⟨_, rfl⟩) (hq (some (am_v B ra (.ref x))) rfl) hS.2.2 hdg0 hlk
    · next x o hrt =>
      cases h
      exact W.aret hx hb (hr.trans hrt) (Or.inr ⟨_, rfl⟩) (Or.inr ⟨_, rfl⟩) (hq (some (am_v B ra (.ref x))) rfl) hS.2.2 hdg0 hlk
    · cases h
  · cases h
theorem am_tab_sd {i : Instr} {j : Nat} {v : Bool} (hcal : am_cal M i = some (j, v)) (hN : am_tab j = some N) : plainFor (am_y N) = true ∧ am_n (am_o N) = (am_y N).cls ∧ (am_ini N = true → (am_y N).name = "<init>") := by
  unfold am_cal at hcal
  split at hcal
  · split at hcal
    · next j' _ hpl =>
      cases hcal
      obtain ⟨-, h2⟩ := am_pl_ok hpl
      simp only [am_sd, hN, Bool.and_eq_true] at h2
      obtain ⟨g1, g2, g3, g4, g5, g6, g7⟩ := am_sdN_ok h2.1.1
      exact ⟨g1, g5, g7⟩
    · next j' _ hpl =>
      cases hcal
      obtain ⟨-, h2⟩ := am_pl_ok hpl
      simp only [am_sd, hN] at h2
      split at h2
      · next N' w hN' hw =>
        cases hN'
        simp only [Bool.and_eq_true] at h2
        obtain ⟨g1, g2, g3, g4, g5, g6, g7⟩ := am_sdN_ok h2.1.1.1
        exact ⟨g1, g5, g7⟩
      · cases h2
    · cases hcal
  · split at hcal
    · next j' _ hpl =>
      cases hcal
      obtain ⟨-, h2⟩ := am_pl_ok hpl
      simp only [am_sd, hN] at h2
      obtain ⟨g1, g2, g3, g4, g5, g6, g7⟩ := am_sdN_ok h2
      exact ⟨g1, g5, g7⟩
    · next j' _ hpl =>
      cases hcal
      obtain ⟨-, h2⟩ := am_pl_ok hpl
      simp only [am_sd, hN] at h2
      split at h2
      · next N' w hN' hw =>
        cases hN'
        simp only [Bool.and_eq_true] at h2
        obtain ⟨g1, g2, g3, g4, g5, g6, g7⟩ := am_sdN_ok h2.1
        exact ⟨g1, g5, g7⟩
      · cases h2
    · cases hcal
  · split at hcal
    · next j' _ hpl =>
      cases hcal
      obtain ⟨-, h2⟩ := am_pl_ok hpl
      simp only [am_sd, hN, Bool.and_eq_true] at h2
      obtain ⟨g1, g2, g3, g4, g5, g6, g7⟩ := am_sdN_ok h2.1
      exact ⟨g1, g5, g7⟩
    · next j' _ hpl =>
      cases hcal
      obtain ⟨-, h2⟩ := am_pl_ok hpl
      simp only [am_sd, hN] at h2
      split at h2
      · next N' w hN' hw =>
        cases hN'
        simp only [Bool.and_eq_true] at h2
        obtain ⟨g1, g2, g3, g4, g5, g6, g7⟩ := am_sdN_ok h2.1.1
        exact ⟨g1, g5, g7⟩
      · cases h2
    · cases hcal
  · cases hcal
end AMT
set_option maxHeartbeats 4000000 in
theorem am_run_ok (hM : ∀ {j : Nat} {N : am_M}, am_tab j = some N → am_okD N = true) (l : Launch) (D : va_G) (B : Nat) (ra : Nat → Nat) (cA : Nat → ClassId) (E : am_Env) : ∀ (fu d : Nat) (M : am_M) (pc : Nat) (ls : am_L) (st : List Value) (hp : am_H) (r : Option Value) (hp1 : am_H), am_run E fu d M pc ls st hp = some (r, hp1) →
    ∀ (n0 n1 z1 : Nat) (p : Program) (e : Env) (R : Room) (s : State) (m : MethodId) (args : Array Value) (below : List Frame) (meth : Method) (c : Code) (Q : State → Prop), am_Fr D B ra cA E n0 d M p R s m args meth c → n0 ≤ hp.length → hp1.length ≤ n1 → am_sz hp1 ≤ z1 →
    (∀ (pc' : Nat) (i : Instr) (ls' : am_L) (st' : List Value), (am_cd M).lookup pc' = some i → am_ret M i st' = some r → am_AW D B ra cA n0 n1 z1 M p l e R s m args below meth c Q (pc', ls', st', hp1)) →
    am_AW D B ra cA n0 n1 z1 M p l e R s m args below meth c Q (pc, ls, st, hp) := by
  intro fu
  induction fu with
  | zero => intro d M pc ls st hp r hp1 h; cases h
  | succ fu ih =>
    intro d M pc ls st hp r hp1 h n0 n1 z1 p e R s m args below meth c Q F h0 hn1 hz1 hret
    have hok : am_okD M = true := F.2.2.2.2.2.2.2.2.2.2.2.2.2.1
    unfold am_run at h
    split at h
    · cases h
    · next i hi =>
      obtain ⟨nn, hdg0, hn⟩ := am_dec hok hi
      split at h
      · next r0 hr0 =>
        cases h
        exact hret pc i ls st hi hr0
      · split at h
        · next j v hcal =>
          split at h
          · next d' N hN =>
            split at h
            · next hcnd =>
              obtain ⟨c1, c2, c3, c4⟩ := hcnd
              split at h
              · next r1 hp2 hrun =>
                have m1 := am_run_mono _ _ _ _ _ _ _ _ _ hrun
                have m2 := am_run_mono _ _ _ _ _ _ _ _ _ h
                obtain ⟨g1, g5, g7⟩ := am_tab_sd hcal hN
                refine am_call F hdg0 hn hcal hN c1 c2 c3 m1 ⟨by omega, by omega⟩ h0 ?_ (ih _ _ _ _ _ _ _ _ h n0 n1 z1 p e R s m args below meth c Q F (by omega) hn1 hz1 hret)
                refine am_ofW g1 rfl ?_
                intro p' e' s' m' args' below' meth' c' s₁ Bd hml hv
                obtain ⟨rfl, hsz, hP, hK, hro⟩ := hv
                have F' : am_Fr D B ra cA E hp.length d' N p' (am_rm d' (hp2.length - hp.length) (am_sz hp2 - am_sz hp)) s' m' (((st.take (am_na N)).reverse.map (am_v B ra)).toArray) meth' c' :=
                  ⟨Bd.exec, Bd.bytes, hml, by rw [g5]; exact findClass_of_methodNamed Bd.named, fun w hw => atoms_spec (ws := am_mw N) Bd.pre w (List.mem_cons_of_mem _ hw), hK, hro, Bd.returns, Bd.notSynchronized, fun hi => (name_of_methodNamed Bd.named Bd.method).1.trans (g7 hi), hsz, Nat.le_refl _, Nat.le_refl _, hM hN, Nat.le_add_left _ _, Nat.le_add_left _ _⟩
                have A := ih _ _ _ _ _ _ _ _ hrun hp.length hp2.length (am_sz hp2) p' e' (am_rm d' (hp2.length - hp.length) (am_sz hp2 - am_sz hp)) s' m' (((st.take (am_na N)).reverse.map (am_v B ra)).toArray) below' meth' c' (MQ below' (am_Qc D B ra cA r1 hp2) (((st.take (am_na N)).reverse.map (am_v B ra)).toArray) s' (hp2.length - hp.length) (am_sz hp2 - am_sz hp) (fun q => B ≤ q)) F' (Nat.le_refl _) (Nat.le_refl _) (Nat.le_refl _) (fun pc' i' ls' st' hi' hr' => am_ret_ok rfl rfl m1 F' hi' hr')
                rw [lg_entry_eq]
                have hl := lv_entry ((st.take (am_na N)).reverse.map (am_v B ra)) (n := am_ml N) (by rw [am_sl_len]; exact c4)
                rw [am_q_args] at hl
                exact A s'.heap [] _ 0 0 hP va_S.rf hl (Nat.zero_add _) (by show 0 + am_sz hp2 ≤ (am_sz hp2 - am_sz hp) + am_sz hp; omega) (by show hp2.length ≤ (hp2.length - hp.length) + hp.length; omega)
              · cases h
            · cases h
          · cases h
        · split at h
          · next pc' ls' st' hp' hone =>
            have a1 := am_one_sz hone
            have a3 : hp'.length = hp.length := a1.1
            exact am_one_ok F hdg0 hn hone (ih _ _ _ _ _ _ _ _ h n0 n1 z1 p e R s m args below meth c Q F (by omega) hn1 hz1 hret)
          · split at h
            · next pc' ls' st' hp' hmk =>
              have a1 := am_mk_sz hmk
              have a3 : hp.length ≤ hp'.length := a1.1
              have m2 := am_run_mono _ _ _ _ _ _ _ _ _ h
              exact am_mk_ok F hdg0 hn hmk h0 (by show hp'.length ≤ n1; omega) (by show am_sz hp' ≤ z1; omega) (ih _ _ _ _ _ _ _ _ h n0 n1 z1 p e R s m args below meth c Q F (by omega) hn1 hz1 hret)
            · cases h
