/-! the instructions of part 03's machine that read and write cells -/
theorem am_fl {o x ci k : Nat} (h : am_pl o x = some (0, ci, k)) : ∃ (r : vw_C) (ty : Nat → FieldType), am_cl[ci]? = some r ∧ am_cy[ci]? = some ty ∧ k < r.2.2 ∧ Cond.fieldLink (am_n o) x (r.2.1 k).1 (r.2.1 k).2.1 (r.2.1 k).2.2.1 ∈ am_G := by
  obtain ⟨h1, h2⟩ := am_pl_ok h
  simp only [am_sd] at h2
  simp only [am_ws] at h1
  cases hr : am_cl[ci]? with
  | none => rw [hr] at h2; cases h2
  | some r =>
    cases ht : am_cy[ci]? with
    | none => rw [hr, ht] at h2; cases h2
    | some ty =>
      rw [hr, ht] at h2
      rw [hr] at h1
      exact ⟨r, ty, rfl, rfl, of_decide_eq_true h2, h1 _ List.mem_cons_self⟩
theorem am_half {a : Nat} (h : 1000000 ≤ a ∧ (a - 1000000) % 2 = 0 ∧ (a - 1000000) / 2 < am_lit.length) : ∃ i, i < am_lit.length ∧ a = 1000000 + 2 * i := ⟨(a - 1000000) / 2, h.2.2, by omega⟩
section AMP
variable {D : va_G} {B : Nat} {ra : Nat → Nat} {cA : Nat → ClassId} {E : am_Env} {n0 n1 z1 d : Nat} {M : am_M} {p : Program} {l : Launch} {e : Env} {R : Room} {s : State} {m : MethodId} {args : Array Value} {below : List Frame} {meth : Method} {c : Code} {Q : State → Prop}

set_option maxHeartbeats 4000000 in
theorem am_o_getfield (x : Nat) (F : am_Fr D B ra cA E n0 d M p R s m args meth c) {nn : Nat} {C C1 : am_C} (hdg0 : decode (am_cc M) C.1 = .ok ((Instr.getfield x), nn)) (hn : am_ln (Instr.getfield x) = 0 ∨ nn = am_ln (Instr.getfield x)) (h : am_one E M (Instr.getfield x) C.1 C.2.1 C.2.2.1 C.2.2.2 = some C1) (kk : am_AW D B ra cA n0 n1 z1 M p l e R s m args below meth c Q C1) : am_AW D B ra cA n0 n1 z1 M p l e R s m args below meth c Q C := by
  obtain ⟨pc, ls, st, hp⟩ := C
  intro H locs lsA cells slots hP hS hl hc hs hnn
  obtain ⟨hx, hb, hml, hown, hts, hK, hro, hr, hlk, hini, hB, hR1, hR2, hok, hR3, hR4⟩ := F
  obtain rfl : nn = 3 := hn.resolve_left (by simp [am_ln])
  have hdg : decode (am_cc M) pc = .ok ((Instr.getfield x), 3) := hdg0
  simp only [am_one] at h
  split at h
  · next a r ci k hpl =>
    split at h
    · next ha =>
      split at h
      · next cj fs hcell =>
        split at h
        · next hcj =>
          subst hcj
          split at h
          · next v hv =>
            cases h
            obtain ⟨q, ty, h1, h2, h3, h4⟩ := am_fl hpl
            obtain ⟨-, -, hlay⟩ := am_cl_ty _ q ty h1 h2
            rw [List.map_cons, am_v_lo ha]
            refine va_get (C := q.1) (T := q.2.1) (N := q.2.2) hx hb hts hlay hown hK hP a (am_w_at hcell) h1 k h3 (hts _ h4) (fun x hx => hx) (v := am_v B ra v) (by rw [List.getElem?_map, hv]; rfl) hdg ?_
            exact kk H locs lsA cells slots hP hS hl hc hs hnn
          · cases h
        · cases h
      · cases h
    · cases h
  · next a r _ _ hpl =>
    split at h
    · next ha =>
      cases h
      obtain ⟨h1, -⟩ := am_pl_ok hpl
      obtain ⟨i, ha2, rfl⟩ := am_half ha
      rw [List.map_cons, am_v_hi (by omega)]
      refine vk_getf hx hb (hro.2.1 i ha2).2.2 hS hown (hts _ (h1 _ List.mem_cons_self)) (fun x hx => hx) hdg ?_
      have kk2 := kk H locs lsA cells slots hP hS hl hc hs hnn
      rw [List.map_cons, am_v_hi (by omega)] at kk2
      exact kk2
    · cases h
  · next a r _ _ hpl =>
    split at h
    · next ha =>
      cases h
      obtain ⟨h1, -⟩ := am_pl_ok hpl
      obtain ⟨i, ha2, rfl⟩ := am_half ha
      rw [List.map_cons, am_v_hi (by omega)]
      refine vk_getf hx hb (hro.2.1 i ha2).2.1 hS hown (hts _ (h1 _ List.mem_cons_self)) (fun x hx => hx) hdg ?_
      exact kk H locs lsA cells slots hP hS hl hc hs hnn
    · cases h
  · cases h
set_option maxHeartbeats 4000000 in
theorem am_o_putfield (x : Nat) (F : am_Fr D B ra cA E n0 d M p R s m args meth c) {nn : Nat} {C C1 : am_C} (hdg0 : decode (am_cc M) C.1 = .ok ((Instr.putfield x), nn)) (hn : am_ln (Instr.putfield x) = 0 ∨ nn = am_ln (Instr.putfield x)) (h : am_one E M (Instr.putfield x) C.1 C.2.1 C.2.2.1 C.2.2.2 = some C1) (kk : am_AW D B ra cA n0 n1 z1 M p l e R s m args below meth c Q C1) : am_AW D B ra cA n0 n1 z1 M p l e R s m args below meth c Q C := by
  obtain ⟨pc, ls, st, hp⟩ := C
  intro H locs lsA cells slots hP hS hl hc hs hnn
  obtain ⟨hx, hb, hml, hown, hts, hK, hro, hr, hlk, hini, hB, hR1, hR2, hok, hR3, hR4⟩ := F
  obtain rfl : nn = 3 := hn.resolve_left (by simp [am_ln])
  have hdg : decode (am_cc M) pc = .ok ((Instr.putfield x), 3) := hdg0
  simp only [am_one] at h
  split at h
  · next v a r ci k hpl =>
    split at h
    · next ha =>
      split at h
      · next cj fs q ty hcell hq hty =>
        split at h
        · next hcond =>
          obtain ⟨hcj, hk, hfit, hfin⟩ := hcond
          subst hcj
          cases h
          obtain ⟨q', ty', h1, h2, h3, h4⟩ := am_fl hpl
          cases hq.symm.trans h1
          cases hty.symm.trans h2
          obtain ⟨hpt, hnm, hlay⟩ := am_cl_ty _ q ty h1 h2
          obtain ⟨hf1, hf2⟩ := am_fit_ok (B := B) (ra := ra) hfit
          rw [List.map_cons, List.map_cons, am_v_lo ha]
          have hstep : ∀ (H1 : Heap) (locs1 : List Loc), va_P D am_cl ((am_w B ra cA hp).set a (B + a, .inr (cj, (fs.map (am_v B ra)).set k (am_v B ra v)))) H1 → va_D (fun q => B ≤ q) ((am_w B ra cA hp).set a (B + a, .inr (cj, (fs.map (am_v B ra)).set k (am_v B ra v)))) → va_S (fun q => B ≤ q) s.heap H1 locs1 → W p l e R s m args below meth c H1 locs1 cells slots Q (F0 m (pc + 3) lsA (r.map (am_v B ra))) := by
            intro H1 locs1 hP1 _ hS1
            have e1 : (am_w B ra cA hp).set a (B + a, .inr (cj, (fs.map (am_v B ra)).set k (am_v B ra v))) = am_w B ra cA (hp.set a (.inr (cj, fs.set k v))) := by
              rw [← am_w_set]
              show _ = (am_w B ra cA hp).set a (B + a, .inr (cj, (fs.set k v).map (am_v B ra)))
              rw [List.map_set]
            rw [e1] at hP1
            refine kk H1 locs1 lsA cells slots hP1 hS1 hl ?_ ?_ hnn
            · show _ = (hp.set a _).length
              rw [List.length_set]
              exact hc
            · show _ ≤ R.slots + am_sz (hp.set a _)
              rw [am_sz_set hcell (by simp [am_cz])]
              exact hs
          rcases hfin with ⟨hi1, hi2⟩ | hi3
          · by_cases hfl : (q.2.1 k).2.2.2 = true
            · exact va_putF (C := q.1) (T := q.2.1) (N := q.2.2) hx hb hts hlay ty hpt hnm hown hK hP am_w_D hS a (am_w_at hcell) h1 k h3 (hts _ h4) (fun x hx => hx) hfl (hini hi1) hi2 (hpt k h3) hf1 hf2 (by rw [List.length_map]; exact hk) hdg hstep
            · exact va_put (C := q.1) (T := q.2.1) (N := q.2.2) hx hb hts hlay ty hpt hnm hown hK hP am_w_D hS a (am_w_at hcell) h1 k h3 (hts _ h4) (fun x hx => hx) (by simpa using hfl) (hpt k h3) hf1 hf2 (by rw [List.length_map]; exact hk) hdg hstep
          · exact va_put (C := q.1) (T := q.2.1) (N := q.2.2) hx hb hts hlay ty hpt hnm hown hK hP am_w_D hS a (am_w_at hcell) h1 k h3 (hts _ h4) (fun x hx => hx) hi3 (hpt k h3) hf1 hf2 (by rw [List.length_map]; exact hk) hdg hstep
        · cases h
      · cases h
    · cases h
  · cases h
set_option maxHeartbeats 4000000 in
theorem am_o_getstatic (x : Nat) (F : am_Fr D B ra cA E n0 d M p R s m args meth c) {nn : Nat} {C C1 : am_C} (hdg0 : decode (am_cc M) C.1 = .ok ((Instr.getstatic x), nn)) (hn : am_ln (Instr.getstatic x) = 0 ∨ nn = am_ln (Instr.getstatic x)) (h : am_one E M (Instr.getstatic x) C.1 C.2.1 C.2.2.1 C.2.2.2 = some C1) (kk : am_AW D B ra cA n0 n1 z1 M p l e R s m args below meth c Q C1) : am_AW D B ra cA n0 n1 z1 M p l e R s m args below meth c Q C := by
  obtain ⟨pc, ls, st, hp⟩ := C
  intro H locs lsA cells slots hP hS hl hc hs hnn
  obtain ⟨hx, hb, hml, hown, hts, hK, hro, hr, hlk, hini, hB, hR1, hR2, hok, hR3, hR4⟩ := F
  obtain rfl : nn = 3 := hn.resolve_left (by simp [am_ln])
  have hdg : decode (am_cc M) pc = .ok ((Instr.getstatic x), 3) := hdg0
  simp only [am_one] at h
  split at h
  · next _ _ hpl =>
    cases h
    obtain ⟨h1, -⟩ := am_pl_ok hpl
    refine va_gets hx hb hro.2.2.2.1 hS hown (hts _ (h1 _ List.mem_cons_self)) (fun x hx => hx) hdg ?_
    exact kk H locs lsA cells slots hP hS hl hc hs hnn
  · next _ _ hpl =>
    cases h
    obtain ⟨-, h2⟩ := am_pl_ok hpl
    simp only [am_sd, decide_eq_true_eq] at h2
    refine va_getsN hx hb hro.2.2.2.2.1.1 hS hown (by rw [h2.1, h2.2]; exact va_Nw.use rfl hro.2.2.2.2.2.2.1) (fun x hx => hx) hdg ?_
    exact kk H locs lsA cells slots hP hS hl hc hs hnn
  · next _ _ hpl =>
    obtain ⟨h1, -⟩ := am_pl_ok hpl
    have hz := hro.2.2.2.2.1.2
    cases hE : E 2000002 with
    | some q0 =>
      rw [hE] at h hz
      have hz : va_Z "jdk/internal/util/Preconditions" "SIOOBE_FORMATTER" "Ljava/util/function/BiFunction;" (.ref (ra 2000003)) _ _ _ := hz
      dsimp only at h
      cases h
      refine va_gets hx hb hz hS hown (hts _ (h1 _ List.mem_cons_self)) (fun x hx => hx) hdg ?_
      exact kk H locs lsA cells slots hP hS hl hc hs hnn
    | none =>
      rw [hE] at h hz
      have hz : va_Z "jdk/internal/util/Preconditions" "SIOOBE_FORMATTER" "Ljava/util/function/BiFunction;" .null _ _ _ := hz
      dsimp only at h
      cases h
      refine va_gets hx hb hz hS hown (hts _ (h1 _ List.mem_cons_self)) (fun x hx => hx) hdg ?_
      exact kk H locs lsA cells slots hP hS hl hc hs hnn
  · cases h
set_option maxHeartbeats 4000000 in
theorem am_o_ldc (x : Nat) (F : am_Fr D B ra cA E n0 d M p R s m args meth c) {nn : Nat} {C C1 : am_C} (hdg0 : decode (am_cc M) C.1 = .ok ((Instr.ldc x), nn)) (hn : am_ln (Instr.ldc x) = 0 ∨ nn = am_ln (Instr.ldc x)) (h : am_one E M (Instr.ldc x) C.1 C.2.1 C.2.2.1 C.2.2.2 = some C1) (kk : am_AW D B ra cA n0 n1 z1 M p l e R s m args below meth c Q C1) : am_AW D B ra cA n0 n1 z1 M p l e R s m args below meth c Q C := by
  obtain ⟨pc, ls, st, hp⟩ := C
  intro H locs lsA cells slots hP hS hl hc hs hnn
  obtain ⟨hx, hb, hml, hown, hts, hK, hro, hr, hlk, hini, hB, hR1, hR2, hok, hR3, hR4⟩ := F
  obtain rfl : nn = 2 := hn.resolve_left (by simp [am_ln])
  have hdg : decode (am_cc M) pc = .ok ((Instr.ldc x), 2) := hdg0
  simp only [am_one] at h
  split at h
  · next j _ hpl =>
    cases h
    obtain ⟨-, h2⟩ := am_pl_ok hpl
    simp only [am_sd] at h2
    cases hj : am_lit[j]? with
    | none => rw [hj] at h2; cases h2
    | some q =>
      rw [hj] at h2
      simp only [decide_eq_true_eq] at h2
      have hZ := hro.2.2.1 j q hj
      rw [h2.1, h2.2] at hZ
      refine va_ldcS hx hb hown hZ hdg ?_
      have kk2 := kk H locs lsA cells slots hP hS hl hc hs hnn
      rw [List.map_cons, am_v_hi (by omega)] at kk2
      exact kk2
  · cases h
set_option maxHeartbeats 4000000 in
theorem am_o_ldc_w (x : Nat) (F : am_Fr D B ra cA E n0 d M p R s m args meth c) {nn : Nat} {C C1 : am_C} (hdg0 : decode (am_cc M) C.1 = .ok ((Instr.ldc_w x), nn)) (hn : am_ln (Instr.ldc_w x) = 0 ∨ nn = am_ln (Instr.ldc_w x)) (h : am_one E M (Instr.ldc_w x) C.1 C.2.1 C.2.2.1 C.2.2.2 = some C1) (kk : am_AW D B ra cA n0 n1 z1 M p l e R s m args below meth c Q C1) : am_AW D B ra cA n0 n1 z1 M p l e R s m args below meth c Q C := by
  obtain ⟨pc, ls, st, hp⟩ := C
  intro H locs lsA cells slots hP hS hl hc hs hnn
  obtain ⟨hx, hb, hml, hown, hts, hK, hro, hr, hlk, hini, hB, hR1, hR2, hok, hR3, hR4⟩ := F
  obtain rfl : nn = 3 := hn.resolve_left (by simp [am_ln])
  have hdg : decode (am_cc M) pc = .ok ((Instr.ldc_w x), 3) := hdg0
  simp only [am_one] at h
  split at h
  · next j _ hpl =>
    split at h
    · next v hv =>
      cases h
      obtain ⟨h1, -⟩ := am_pl_ok hpl
      simp only [am_ws, hv] at h1
      refine lv_ldcw hx hb hown (hts _ (h1 _ List.mem_cons_self)) hdg ?_
      exact kk H locs lsA cells slots hP hS hl hc hs hnn
    · cases h
  · cases h
set_option maxHeartbeats 4000000 in
theorem am_o_ldc2_w (x : Nat) (F : am_Fr D B ra cA E n0 d M p R s m args meth c) {nn : Nat} {C C1 : am_C} (hdg0 : decode (am_cc M) C.1 = .ok ((Instr.ldc2_w x), nn)) (hn : am_ln (Instr.ldc2_w x) = 0 ∨ nn = am_ln (Instr.ldc2_w x)) (h : am_one E M (Instr.ldc2_w x) C.1 C.2.1 C.2.2.1 C.2.2.2 = some C1) (kk : am_AW D B ra cA n0 n1 z1 M p l e R s m args below meth c Q C1) : am_AW D B ra cA n0 n1 z1 M p l e R s m args below meth c Q C := by
  obtain ⟨pc, ls, st, hp⟩ := C
  intro H locs lsA cells slots hP hS hl hc hs hnn
  obtain ⟨hx, hb, hml, hown, hts, hK, hro, hr, hlk, hini, hB, hR1, hR2, hok, hR3, hR4⟩ := F
  obtain rfl : nn = 3 := hn.resolve_left (by simp [am_ln])
  have hdg : decode (am_cc M) pc = .ok ((Instr.ldc2_w x), 3) := hdg0
  simp only [am_one] at h
  split at h
  · next j _ hpl =>
    split at h
    · next v hv =>
      cases h
      obtain ⟨h1, -⟩ := am_pl_ok hpl
      simp only [am_ws, hv] at h1
      refine lv_ldc2 hx hb hown (hts _ (h1 _ List.mem_cons_self)) hdg ?_
      exact kk H locs lsA cells slots hP hS hl hc hs hnn
    · cases h
  · cases h
set_option maxHeartbeats 4000000 in
theorem am_o_iaload  (F : am_Fr D B ra cA E n0 d M p R s m args meth c) {nn : Nat} {C C1 : am_C} (hdg0 : decode (am_cc M) C.1 = .ok ((Instr.iaload), nn)) (hn : am_ln (Instr.iaload) = 0 ∨ nn = am_ln (Instr.iaload)) (h : am_one E M (Instr.iaload) C.1 C.2.1 C.2.2.1 C.2.2.2 = some C1) (kk : am_AW D B ra cA n0 n1 z1 M p l e R s m args below meth c Q C1) : am_AW D B ra cA n0 n1 z1 M p l e R s m args below meth c Q C := by
  obtain ⟨pc, ls, st, hp⟩ := C
  intro H locs lsA cells slots hP hS hl hc hs hnn
  obtain ⟨hx, hb, hml, hown, hts, hK, hro, hr, hlk, hini, hB, hR1, hR2, hok, hR3, hR4⟩ := F
  obtain rfl : nn = 1 := hn.resolve_left (by simp [am_ln])
  have hdg : decode (am_cc M) pc = .ok ((Instr.iaload), 1) := hdg0
  simp only [am_one] at h
  split at h
  · next j a r =>
    split at h
    · next ha =>
      split at h
      · next n f hcell =>
        split at h
        · next hin =>
          cases h
          rw [List.map_cons, List.map_cons, am_v_lo ha]
          refine va_iald (cA := cA 0) hx hb hK hP a 0 (am_w_at hcell) rfl (am_in_ok hin) hdg ?_
          exact kk H locs lsA cells slots hP hS hl hc hs hnn
        · cases h
      · cases h
    · next ha =>
      split at h
      · next n f hE =>
        split at h
        · next hin =>
          cases h
          rw [List.map_cons, List.map_cons, am_v_hi ha]
          rcases hro.1 a _ hE with ⟨-, hT⟩ | ⟨h0, -⟩
          · refine va_ti hx hb hT hS (am_in_ok hin) rfl hdg ?_
            exact kk H locs lsA cells slots hP hS hl hc hs hnn
          · cases h0
        · cases h
      · cases h
  · cases h
set_option maxHeartbeats 4000000 in
theorem am_o_laload  (F : am_Fr D B ra cA E n0 d M p R s m args meth c) {nn : Nat} {C C1 : am_C} (hdg0 : decode (am_cc M) C.1 = .ok ((Instr.laload), nn)) (hn : am_ln (Instr.laload) = 0 ∨ nn = am_ln (Instr.laload)) (h : am_one E M (Instr.laload) C.1 C.2.1 C.2.2.1 C.2.2.2 = some C1) (kk : am_AW D B ra cA n0 n1 z1 M p l e R s m args below meth c Q C1) : am_AW D B ra cA n0 n1 z1 M p l e R s m args below meth c Q C := by
  obtain ⟨pc, ls, st, hp⟩ := C
  intro H locs lsA cells slots hP hS hl hc hs hnn
  obtain ⟨hx, hb, hml, hown, hts, hK, hro, hr, hlk, hini, hB, hR1, hR2, hok, hR3, hR4⟩ := F
  obtain rfl : nn = 1 := hn.resolve_left (by simp [am_ln])
  have hdg : decode (am_cc M) pc = .ok ((Instr.laload), 1) := hdg0
  simp only [am_one] at h
  split at h
  · next j a r =>
    split at h
    · next ha =>
      split at h
      · next n f hcell =>
        split at h
        · next hin =>
          cases h
          rw [List.map_cons, List.map_cons, am_v_lo ha]
          refine va_lald (cA := cA 1) hx hb hK hP a 1 (am_w_at hcell) rfl (am_in_ok hin) hdg ?_
          exact kk H locs lsA cells slots hP hS hl hc hs hnn
        · cases h
      · cases h
    · cases h
  · cases h
set_option maxHeartbeats 4000000 in
theorem am_o_caload  (F : am_Fr D B ra cA E n0 d M p R s m args meth c) {nn : Nat} {C C1 : am_C} (hdg0 : decode (am_cc M) C.1 = .ok ((Instr.caload), nn)) (hn : am_ln (Instr.caload) = 0 ∨ nn = am_ln (Instr.caload)) (h : am_one E M (Instr.caload) C.1 C.2.1 C.2.2.1 C.2.2.2 = some C1) (kk : am_AW D B ra cA n0 n1 z1 M p l e R s m args below meth c Q C1) : am_AW D B ra cA n0 n1 z1 M p l e R s m args below meth c Q C := by
  obtain ⟨pc, ls, st, hp⟩ := C
  intro H locs lsA cells slots hP hS hl hc hs hnn
  obtain ⟨hx, hb, hml, hown, hts, hK, hro, hr, hlk, hini, hB, hR1, hR2, hok, hR3, hR4⟩ := F
  obtain rfl : nn = 1 := hn.resolve_left (by simp [am_ln])
  have hdg : decode (am_cc M) pc = .ok ((Instr.caload), 1) := hdg0
  simp only [am_one] at h
  split at h
  · next j a r =>
    split at h
    · next ha =>
      split at h
      · next n f hcell =>
        split at h
        · next hin =>
          cases h
          rw [List.map_cons, List.map_cons, am_v_lo ha]
          refine va_cald (cA := cA 2) hx hb hK hP a 2 (am_w_at hcell) rfl (am_in_ok hin) hdg ?_
          exact kk H locs lsA cells slots hP hS hl hc hs hnn
        · cases h
      · cases h
    · cases h
  · cases h
set_option maxHeartbeats 4000000 in
theorem am_o_aaload  (F : am_Fr D B ra cA E n0 d M p R s m args meth c) {nn : Nat} {C C1 : am_C} (hdg0 : decode (am_cc M) C.1 = .ok ((Instr.aaload), nn)) (hn : am_ln (Instr.aaload) = 0 ∨ nn = am_ln (Instr.aaload)) (h : am_one E M (Instr.aaload) C.1 C.2.1 C.2.2.1 C.2.2.2 = some C1) (kk : am_AW D B ra cA n0 n1 z1 M p l e R s m args below meth c Q C1) : am_AW D B ra cA n0 n1 z1 M p l e R s m args below meth c Q C := by
  obtain ⟨pc, ls, st, hp⟩ := C
  intro H locs lsA cells slots hP hS hl hc hs hnn
  obtain ⟨hx, hb, hml, hown, hts, hK, hro, hr, hlk, hini, hB, hR1, hR2, hok, hR3, hR4⟩ := F
  obtain rfl : nn = 1 := hn.resolve_left (by simp [am_ln])
  have hdg : decode (am_cc M) pc = .ok ((Instr.aaload), 1) := hdg0
  simp only [am_one] at h
  split at h
  · next j a r =>
    split at h
    · next ha =>
      split at h
      · next n f hcell =>
        split at h
        · next hin =>
          split at h
          · next q hq =>
            cases h
            rw [List.map_cons, List.map_cons, am_v_lo ha]
            have hvi := am_in_ok hin
            have hlt : j.toNatClampNeg < n := Nat.not_le.mp fun z => hvi (Or.inr z)
            have hcl : H[B + a]? = some (vp_cell (cA 3) (n, .inr (.inr (.inr (.inr (fun i => (f i).map (am_ad B ra))))))) := hP a _ (am_w_at hcell)
            refine W.aald (v := .ref (am_ad B ra q)) (ty := .array .int) hx hb hcl ((hK.2 3 _ rfl).1 n (fun i => va_rf ((f i).map (am_ad B ra)))) rfl (fun z => by cases z) (by show ¬ (j < 0 ∨ (arrV _ _ _).slots.size ≤ _); rw [arrV_size]; exact hvi) (by show (arrV _ _ _).slots[_]? = _; rw [arrV_read _ _ hlt]; show some (va_rf ((f j.toNatClampNeg).map (am_ad B ra))) = _; rw [hq]; rfl) rfl rfl hdg ?_
            exact kk H locs lsA cells slots hP hS hl hc hs hnn
          · cases h
        · cases h
      · cases h
    · cases h
  · cases h
set_option maxHeartbeats 4000000 in
theorem am_o_baload  (F : am_Fr D B ra cA E n0 d M p R s m args meth c) {nn : Nat} {C C1 : am_C} (hdg0 : decode (am_cc M) C.1 = .ok ((Instr.baload), nn)) (hn : am_ln (Instr.baload) = 0 ∨ nn = am_ln (Instr.baload)) (h : am_one E M (Instr.baload) C.1 C.2.1 C.2.2.1 C.2.2.2 = some C1) (kk : am_AW D B ra cA n0 n1 z1 M p l e R s m args below meth c Q C1) : am_AW D B ra cA n0 n1 z1 M p l e R s m args below meth c Q C := by
  obtain ⟨pc, ls, st, hp⟩ := C
  intro H locs lsA cells slots hP hS hl hc hs hnn
  obtain ⟨hx, hb, hml, hown, hts, hK, hro, hr, hlk, hini, hB, hR1, hR2, hok, hR3, hR4⟩ := F
  obtain rfl : nn = 1 := hn.resolve_left (by simp [am_ln])
  have hdg : decode (am_cc M) pc = .ok ((Instr.baload), 1) := hdg0
  simp only [am_one] at h
  split at h
  · next j a r =>
    split at h
    · next n f hE =>
      split at h
      · next hin =>
        cases h
        rw [List.map_cons, List.map_cons, am_v_hi (Nat.not_lt.mpr hin.1)]
        rcases hro.1 a _ hE with ⟨h0, -⟩ | ⟨-, hT⟩
        · cases h0
        · refine va_tb hx hb hT hS (am_in_ok hin.2) rfl hdg ?_
          exact kk H locs lsA cells slots hP hS hl hc hs hnn
      · cases h
    · cases h
  · cases h
set_option maxHeartbeats 4000000 in
theorem am_o_iastore  (F : am_Fr D B ra cA E n0 d M p R s m args meth c) {nn : Nat} {C C1 : am_C} (hdg0 : decode (am_cc M) C.1 = .ok ((Instr.iastore), nn)) (hn : am_ln (Instr.iastore) = 0 ∨ nn = am_ln (Instr.iastore)) (h : am_one E M (Instr.iastore) C.1 C.2.1 C.2.2.1 C.2.2.2 = some C1) (kk : am_AW D B ra cA n0 n1 z1 M p l e R s m args below meth c Q C1) : am_AW D B ra cA n0 n1 z1 M p l e R s m args below meth c Q C := by
  obtain ⟨pc, ls, st, hp⟩ := C
  intro H locs lsA cells slots hP hS hl hc hs hnn
  obtain ⟨hx, hb, hml, hown, hts, hK, hro, hr, hlk, hini, hB, hR1, hR2, hok, hR3, hR4⟩ := F
  obtain rfl : nn = 1 := hn.resolve_left (by simp [am_ln])
  have hdg : decode (am_cc M) pc = .ok ((Instr.iastore), 1) := hdg0
  simp only [am_one] at h
  split at h
  · next x j a r =>
    split at h
    · next ha =>
      split at h
      · next n f hcell =>
        split at h
        · next hin =>
          cases h
          rw [List.map_cons, List.map_cons, List.map_cons, am_v_lo ha]
          refine va_iast (cA := cA 0) hx hb hK hP am_w_D hS a 0 (am_w_at hcell) rfl (am_in_ok hin) hdg (fun H1 locs1 hP1 _ hS1 => ?_)
          have e1 : (am_w B ra cA hp).set a (B + a, .inl (cA 0, n, .inl (upd f j.toNatClampNeg x))) = am_w B ra cA (hp.set a (.inl (0, n, .inl (upd f j.toNatClampNeg x)))) := by
            rw [← am_w_set]
            rfl
          rw [e1] at hP1
          refine kk H1 locs1 lsA cells slots hP1 hS1 hl ?_ ?_ hnn
          · show _ = (hp.set a _).length
            rw [List.length_set]
            exact hc
          · show _ ≤ R.slots + am_sz (hp.set a _)
            rw [am_sz_set hcell (by simp [am_cz])]
            exact hs
        · cases h
      · cases h
    · cases h
  · cases h
set_option maxHeartbeats 4000000 in
theorem am_o_lastore  (F : am_Fr D B ra cA E n0 d M p R s m args meth c) {nn : Nat} {C C1 : am_C} (hdg0 : decode (am_cc M) C.1 = .ok ((Instr.lastore), nn)) (hn : am_ln (Instr.lastore) = 0 ∨ nn = am_ln (Instr.lastore)) (h : am_one E M (Instr.lastore) C.1 C.2.1 C.2.2.1 C.2.2.2 = some C1) (kk : am_AW D B ra cA n0 n1 z1 M p l e R s m args below meth c Q C1) : am_AW D B ra cA n0 n1 z1 M p l e R s m args below meth c Q C := by
  obtain ⟨pc, ls, st, hp⟩ := C
  intro H locs lsA cells slots hP hS hl hc hs hnn
  obtain ⟨hx, hb, hml, hown, hts, hK, hro, hr, hlk, hini, hB, hR1, hR2, hok, hR3, hR4⟩ := F
  obtain rfl : nn = 1 := hn.resolve_left (by simp [am_ln])
  have hdg : decode (am_cc M) pc = .ok ((Instr.lastore), 1) := hdg0
  simp only [am_one] at h
  split at h
  · next x j a r =>
    split at h
    · next ha =>
      split at h
      · next n f hcell =>
        split at h
        · next hin =>
          cases h
          rw [List.map_cons, List.map_cons, List.map_cons, am_v_lo ha]
          refine va_last (cA := cA 1) hx hb hK hP am_w_D hS a 1 (am_w_at hcell) rfl (am_in_ok hin) hdg (fun H1 locs1 hP1 _ hS1 => ?_)
          have e1 : (am_w B ra cA hp).set a (B + a, .inl (cA 1, n, .inr (.inl (vp_updL f j.toNatClampNeg x)))) = am_w B ra cA (hp.set a (.inl (1, n, .inr (.inl (vp_updL f j.toNatClampNeg x))))) := by
            rw [← am_w_set]
            rfl
          rw [e1] at hP1
          refine kk H1 locs1 lsA cells slots hP1 hS1 hl ?_ ?_ hnn
          · show _ = (hp.set a _).length
            rw [List.length_set]
            exact hc
          · show _ ≤ R.slots + am_sz (hp.set a _)
            rw [am_sz_set hcell (by simp [am_cz])]
            exact hs
        · cases h
      · cases h
    · cases h
  · cases h
set_option maxHeartbeats 4000000 in
theorem am_o_castore  (F : am_Fr D B ra cA E n0 d M p R s m args meth c) {nn : Nat} {C C1 : am_C} (hdg0 : decode (am_cc M) C.1 = .ok ((Instr.castore), nn)) (hn : am_ln (Instr.castore) = 0 ∨ nn = am_ln (Instr.castore)) (h : am_one E M (Instr.castore) C.1 C.2.1 C.2.2.1 C.2.2.2 = some C1) (kk : am_AW D B ra cA n0 n1 z1 M p l e R s m args below meth c Q C1) : am_AW D B ra cA n0 n1 z1 M p l e R s m args below meth c Q C := by
  obtain ⟨pc, ls, st, hp⟩ := C
  intro H locs lsA cells slots hP hS hl hc hs hnn
  obtain ⟨hx, hb, hml, hown, hts, hK, hro, hr, hlk, hini, hB, hR1, hR2, hok, hR3, hR4⟩ := F
  obtain rfl : nn = 1 := hn.resolve_left (by simp [am_ln])
  have hdg : decode (am_cc M) pc = .ok ((Instr.castore), 1) := hdg0
  simp only [am_one] at h
  split at h
  · next x j a r =>
    split at h
    · next ha =>
      split at h
      · next n f hcell =>
        split at h
        · next hin =>
          cases h
          rw [List.map_cons, List.map_cons, List.map_cons, am_v_lo ha]
          refine va_cast (cA := cA 2) hx hb hK hP am_w_D hS a 2 (am_w_at hcell) rfl (am_in_ok hin) hdg (fun H1 locs1 hP1 _ hS1 => ?_)
          have e1 : (am_w B ra cA hp).set a (B + a, .inl (cA 2, n, .inl (upd f j.toNatClampNeg (vp_nar .char x)))) = am_w B ra cA (hp.set a (.inl (2, n, .inl (upd f j.toNatClampNeg (vp_nar .char x))))) := by
            rw [← am_w_set]
            rfl
          rw [e1] at hP1
          refine kk H1 locs1 lsA cells slots hP1 hS1 hl ?_ ?_ hnn
          · show _ = (hp.set a _).length
            rw [List.length_set]
            exact hc
          · show _ ≤ R.slots + am_sz (hp.set a _)
            rw [am_sz_set hcell (by simp [am_cz])]
            exact hs
        · cases h
      · cases h
    · cases h
  · cases h
set_option maxHeartbeats 4000000 in
theorem am_o_arraylength  (F : am_Fr D B ra cA E n0 d M p R s m args meth c) {nn : Nat} {C C1 : am_C} (hdg0 : decode (am_cc M) C.1 = .ok ((Instr.arraylength), nn)) (hn : am_ln (Instr.arraylength) = 0 ∨ nn = am_ln (Instr.arraylength)) (h : am_one E M (Instr.arraylength) C.1 C.2.1 C.2.2.1 C.2.2.2 = some C1) (kk : am_AW D B ra cA n0 n1 z1 M p l e R s m args below meth c Q C1) : am_AW D B ra cA n0 n1 z1 M p l e R s m args below meth c Q C := by
  obtain ⟨pc, ls, st, hp⟩ := C
  intro H locs lsA cells slots hP hS hl hc hs hnn
  obtain ⟨hx, hb, hml, hown, hts, hK, hro, hr, hlk, hini, hB, hR1, hR2, hok, hR3, hR4⟩ := F
  obtain rfl : nn = 1 := hn.resolve_left (by simp [am_ln])
  have hdg : decode (am_cc M) pc = .ok ((Instr.arraylength), 1) := hdg0
  simp only [am_one] at h
  split at h
  · next a r =>
    split at h
    · next ha =>
      split at h
      · next t n x hcell =>
        split at h
        · next ht =>
          cases h
          rw [List.map_cons, am_v_lo ha]
          have hat := am_w_at (B := B) (ra := ra) (cA := cA) hcell
          obtain ⟨y, hy, hy1⟩ : ∃ y : vp_A, am_e B ra cA (.inl (t, n, x)) = .inl (cA t, y) ∧ y.1 = n := by
            rcases x with f | f | f | f | f
            · exact ⟨_, rfl, rfl⟩
            · exact ⟨_, rfl, rfl⟩
            · exact ⟨_, rfl, rfl⟩
            · exact ⟨_, rfl, rfl⟩
            · exact ⟨_, rfl, rfl⟩
          rw [hy] at hat
          obtain ⟨ty, hty⟩ : ∃ ty, (am_tys cA)[t]? = some (cA t, ty) := by
            match t, ht with
            | 0, _ => exact ⟨_, rfl⟩
            | 1, _ => exact ⟨_, rfl⟩
            | 2, _ => exact ⟨_, rfl⟩
            | 3, _ => exact ⟨_, rfl⟩
            | t + 4, ht => exact absurd ht (Nat.not_lt.mpr (Nat.le_add_left 4 t))
          refine va_alen hx hb hK hP a t hat hty (v := Int32.ofNat n) (by rw [hy1]) hdg ?_
          exact kk H locs lsA cells slots hP hS hl hc hs hnn
        · cases h
      · cases h
    · next ha =>
      split at h
      · next t n f hE =>
        cases h
        rw [List.map_cons, am_v_hi ha]
        rcases hro.1 a _ hE with ⟨-, hT⟩ | ⟨-, hT⟩
        · refine va_tlen hx hb hT hS rfl hdg ?_
          exact kk H locs lsA cells slots hP hS hl hc hs hnn
        · refine va_tlen hx hb hT hS rfl hdg ?_
          exact kk H locs lsA cells slots hP hS hl hc hs hnn
      · cases h
  · cases h
set_option maxHeartbeats 4000000 in
theorem am_o_invokestatic (x : Nat) (F : am_Fr D B ra cA E n0 d M p R s m args meth c) {nn : Nat} {C C1 : am_C} (hdg0 : decode (am_cc M) C.1 = .ok ((Instr.invokestatic x), nn)) (hn : am_ln (Instr.invokestatic x) = 0 ∨ nn = am_ln (Instr.invokestatic x)) (h : am_one E M (Instr.invokestatic x) C.1 C.2.1 C.2.2.1 C.2.2.2 = some C1) (kk : am_AW D B ra cA n0 n1 z1 M p l e R s m args below meth c Q C1) : am_AW D B ra cA n0 n1 z1 M p l e R s m args below meth c Q C := by
  obtain ⟨pc, ls, st, hp⟩ := C
  intro H locs lsA cells slots hP hS hl hc hs hnn
  obtain ⟨hx, hb, hml, hown, hts, hK, hro, hr, hlk, hini, hB, hR1, hR2, hok, hR3, hR4⟩ := F
  obtain rfl : nn = 3 := hn.resolve_left (by simp [am_ln])
  have hdg : decode (am_cc M) pc = .ok ((Instr.invokestatic x), 3) := hdg0
  simp only [am_one] at h
  split at h
  · next n dp a sp a0 r _ _ hpl =>
    split at h
    · next ha =>
      split at h
      · next n0' f n1' g hcell0 hcell1 =>
        split at h
        · next hcnd =>
          cases h
          obtain ⟨c1, c2, c3, c4, c5, c6⟩ := hcnd
          obtain ⟨h1, -⟩ := am_pl_ok hpl
          simp only [am_ws] at h1
          rw [List.map_cons, List.map_cons, List.map_cons, List.map_cons, List.map_cons, am_v_lo ha.1, am_v_lo ha.2]
          refine va_copyi (ty := .int) (c0 := cA 0) (c1 := cA 0) hx hb (by rw [hml]; exact hl.1.symm) hown (hts _ (h1 _ (by simp))) (hts _ (h1 _ (by simp))) (hts _ (h1 _ (by simp))) (hts _ (h1 _ (by simp))) hK hP am_w_D hS a0 a 0 0 (am_w_at hcell0) (am_w_at hcell1) rfl rfl rfl c1 c2 c3 c4 c5 (fun _ _ => rfl) hR3 ?_ hdg (fun H1 locs1 hP1 _ hS1 => ?_)
          · rw [am_cats]
            have hnf : nativeFrameWords "java/lang/System" "arraycopy" 5 + 11 ≤ 52 := by decide +kernel
            omega
          · have e1 : (am_w B ra cA hp).set a (B + a, .inl (cA 0, n1', .inl (va_cpy f g sp.toNatClampNeg dp.toNatClampNeg n.toNatClampNeg))) = am_w B ra cA (hp.set a (.inl (0, n1', .inl (va_cpy f g sp.toNatClampNeg dp.toNatClampNeg n.toNatClampNeg)))) := by
              rw [← am_w_set]
              rfl
            rw [e1] at hP1
            refine kk H1 locs1 lsA cells slots hP1 hS1 hl ?_ ?_ hnn
            · show _ = (hp.set a _).length
              rw [List.length_set]
              exact hc
            · show _ ≤ R.slots + am_sz (hp.set a _)
              rw [am_sz_set hcell1 (by simp [am_cz])]
              exact hs
        · cases h
      · cases h
    · cases h
  · cases h
set_option maxHeartbeats 4000000 in
theorem am_o_invokespecial (x : Nat) (F : am_Fr D B ra cA E n0 d M p R s m args meth c) {nn : Nat} {C C1 : am_C} (hdg0 : decode (am_cc M) C.1 = .ok ((Instr.invokespecial x), nn)) (hn : am_ln (Instr.invokespecial x) = 0 ∨ nn = am_ln (Instr.invokespecial x)) (h : am_one E M (Instr.invokespecial x) C.1 C.2.1 C.2.2.1 C.2.2.2 = some C1) (kk : am_AW D B ra cA n0 n1 z1 M p l e R s m args below meth c Q C1) : am_AW D B ra cA n0 n1 z1 M p l e R s m args below meth c Q C := by
  obtain ⟨pc, ls, st, hp⟩ := C
  intro H locs lsA cells slots hP hS hl hc hs hnn
  obtain ⟨hx, hb, hml, hown, hts, hK, hro, hr, hlk, hini, hB, hR1, hR2, hok, hR3, hR4⟩ := F
  obtain rfl : nn = 3 := hn.resolve_left (by simp [am_ln])
  have hdg : decode (am_cc M) pc = .ok ((Instr.invokespecial x), 3) := hdg0
  simp only [am_one] at h
  split at h
  · next a r _ _ hpl =>
    split at h
    · next hcat =>
      cases h
      obtain ⟨h1, -⟩ := am_pl_ok hpl
      simp only [am_ws] at h1
      refine W.objInit (a := am_ad B ra a) (rest := r.map (am_v B ra)) hx hb hown (hts _ (h1 _ (by simp))) (hts _ (h1 _ (by simp))) (hts _ (am_mem am_cO rfl)) rfl (by rw [hml]; exact hl.1) rfl hdg hR3 ?_ ?_
      · show 2 * 0 + ((r.map (am_v B ra)).map fun v => v.category).sum + 12 ≤ _
        rw [am_cats]
        omega
      · exact kk H locs lsA cells slots hP hS hl hc hs hnn
    · cases h
  · cases h
end AMP
