theorem am_lit_st (args : Array Value) (s : State) (hg : (Jvm.Cond.and given_1 narrow_1).before args s = true) (B : Nat) (hB : ∀ a : Nat, a < s.heap.size → ¬ B ≤ a) : ∃ ad : Nat → Nat × Nat, ∀ (i : Nat) (r : String × Nat × String × List Int32), am_lit[i]? = some r → (Term.string r.1 r.2.1).eval args s none [] s = some (.ref (ad i).1) ∧ va_O "java/lang/String" (ad i).1 (fun q => B ≤ q) s s.heap ∧ va_OF "java/lang/String" "coder" "B" (.int 0) (ad i).1 (fun q => B ≤ q) s s.heap ∧ va_OF "java/lang/String" "value" "[B" (.ref (ad i).2) (ad i).1 (fun q => B ≤ q) s s.heap ∧ va_T .byte (ad i).2 r.2.2.2.length (fun j => .int (r.2.2.2.getD j 0)) (fun q => B ≤ q) s s.heap := by
  have hs := flat_of_before _ hg
  have h0 : ∀ i : Nat, ∃ q : Nat × Nat, ∀ (r : String × Nat × String × List Int32), am_lit[i]? = some r → (Term.string r.1 r.2.1).eval args s none [] s = some (.ref q.1) ∧ va_O "java/lang/String" q.1 (fun q => B ≤ q) s s.heap ∧ va_OF "java/lang/String" "coder" "B" (.int 0) q.1 (fun q => B ≤ q) s s.heap ∧ va_OF "java/lang/String" "value" "[B" (.ref q.2) q.1 (fun q => B ≤ q) s s.heap ∧ va_T .byte q.2 r.2.2.2.length (fun j => .int (r.2.2.2.getD j 0)) (fun q => B ≤ q) s s.heap := by
    intro i
    cases hi : am_lit[i]? with
    | none => exact ⟨(0, 0), fun r h => by cases h⟩
    | some r =>
      have hk := am_lit_ok r (List.mem_of_getElem? hi)
      simp only [am_lk1, Bool.and_eq_true, decide_eq_true_eq, List.all_eq_true] at hk
      obtain ⟨⟨hk1, hk2⟩, -⟩ := hk
      have hw : ∀ w ∈ am_lc r.1 r.2.1 r.2.2.2, w.before args s = true := fun w hw => hs w (hk1 w hw)
      obtain ⟨a, cc, cell, kA, q1, q2, q3, q4, q5, q6, -⟩ := Cond.exactly_spec (args := args) (first := s) (o := none) (s := s) (idx := []) (t := .string r.1 r.2.1) (cls := "java/lang/String") (hw _ (by simp [am_lc]))
      obtain ⟨t, ht, hT⟩ := va_Tof (tm := am_tv r.1 r.2.1) (ty := .byte) (N := r.2.2.2.length) (f := fun j => .int (r.2.2.2.getD j 0)) (A := fun q => B ≤ q) hk2 (hw _ (by simp [am_lc])) (va_eqt (hw _ (by simp [am_lc]))) (fun j hj => va_eqt (hw _ (List.mem_append_right _ (List.mem_map.mpr ⟨j, List.mem_range.mpr hj, rfl⟩)))) hB
      refine ⟨(a, t), fun r' hr' => ?_⟩
      cases hr'
      exact ⟨q1, ⟨cell, q3, q5, by rw [q6]; exact q2, hB a (Array.getElem?_eq_some_iff.mp q3).1⟩, vk_OFof q1 (va_eqt (hw _ (by simp [am_lc]))) hB, vk_OFof q1 ht hB, hT⟩
  obtain ⟨ad, had⟩ := Classical.axiomOfChoice h0
  exact ⟨ad, had⟩
theorem am_ao_of {args : Array Value} {s : State} (h : (Cond.arrayOver (.array .int)).before args s = true) : am_AO s := by
  have h : (Cond.arrayOver (.array .int)).holds args s none s [] = true := h
  simp only [Cond.holds, Cond.value, beq_iff_eq] at h
  cases hc : s.vm.findClass (FieldType.array .int).toString with
  | none => simp [hc] at h
  | some comp =>
    simp only [hc, Option.bind_some, Option.bind_eq_some_iff, Option.map_eq_some_iff] at h
    obtain ⟨c, hi, k, hk, hb⟩ := h
    obtain ⟨hlt, hp, -⟩ := Array.findIdx?_eq_some_iff_getElem.mp hi
    have hkk : s.vm.classes[c] = k := (Array.getElem?_eq_some_iff.mp hk).2
    rw [hkk] at hp
    cases hkind : k.kind with
    | array component ty =>
      rw [hkind] at hb hp
      simp at hb hp
      exact ⟨comp, c, k, hc, hk, by rw [hkind, hp, hb.1], hb.2⟩
    | _ => rw [hkind] at hb; simp at hb
theorem am_K0 {args : Array Value} {s : State} (hts : ∀ w ∈ lw_tbl, w.before args s = true) : ∃ (D : va_G) (cA : Nat → ClassId), va_K D am_cl (am_tys cA) s := by
  have hg : ∀ w ∈ am_G, w.before args s = true := fun w hw => hts w (List.mem_filter.mp hw).1
  have hcls : ∀ ci : Nat, ∃ q : ClassId × (Nat → Nat), ∀ r : vw_C, am_cl[ci]? = some r → u_Kn s r.1 r.2.1 r.2.2 q.1 q.2 := by
    intro ci
    cases hr : am_cl[ci]? with
    | none => exact ⟨(0, fun _ => 0), fun r h => by cases h⟩
    | some r =>
      obtain ⟨ty, hty⟩ : ∃ ty, am_cy[ci]? = some ty := ⟨_, List.getElem?_eq_getElem (show ci < am_cy.length from (List.getElem?_eq_some_iff.mp hr).1)⟩
      obtain ⟨-, -, hlay⟩ := am_cl_ty ci r ty hr hty
      obtain ⟨c0, iS0, hKn⟩ := u_known (C := r.1) (T := r.2.1) (N := r.2.2) (n := r.2.2) hg hlay (hts _ (am_cl_inst r (List.mem_of_getElem? hr)))
      exact ⟨(c0, iS0), fun r' hr' => by cases hr'; exact hKn⟩
  obtain ⟨qc, hqc⟩ := Classical.axiomOfChoice hcls
  obtain ⟨cI, kI, compI, fI, gI, tI⟩ := Cond.arrayClass_spec (args := args) (first := s) (o := none) (s := s) (idx := []) (hg _ am_acI)
  obtain ⟨cJ, kJ, compJ, fJ, gJ, tJ⟩ := Cond.arrayClass_spec (args := args) (first := s) (o := none) (s := s) (idx := []) (hg _ am_acJ)
  obtain ⟨cC, kC, compC, fC, gC, tC⟩ := Cond.arrayClass_spec (args := args) (first := s) (o := none) (s := s) (idx := []) (hg _ am_acC)
  obtain ⟨comp, cG, kG, f1, f2, f3, f4⟩ := am_ao_of (hts _ am_aoM)
  refine ⟨(fun k => (qc k).1, fun k => (qc k).2), fun t => match t with | 0 => cI | 1 => cJ | 2 => cC | _ => cG, fun k q hq => hqc k q hq, fun k q hq => ?_⟩
  match k, hq with
  | 0, hq => cases hq; exact ⟨fun n z => ⟨fun k h => (by cases h), kI, gI, compI, tI⟩, fI⟩
  | 1, hq => cases hq; exact ⟨fun n z => ⟨fun k h => (by cases h), kJ, gJ, compJ, tJ⟩, fJ⟩
  | 2, hq => cases hq; exact ⟨fun n z => ⟨fun k h => (by cases h), kC, gC, compC, tC⟩, fC⟩
  | 3, hq => cases hq; exact ⟨fun n z => ⟨fun k h => (by cases h), kG, f2, comp, f3⟩, f4⟩
  | k + 4, hq => simp [am_tys] at hq
theorem am_RO0 {p : Program} {s : State} {m : MethodId} {meth : Method} {c : Code} {b L : Nat} {xs : Nat → Int32} (C0 : lw_At p s m meth c b L xs) : ∃ (ra : Nat → Nat) (bz : Bool), ra 2000001 = b ∧ am_RO s.heap.size ra (am_E L xs bz) s := by
  obtain ⟨hx, hb, hr, hml, hown, hts, hX, hbl, hlocks, hgv⟩ := C0
  have hB : ∀ a : Nat, a < s.heap.size → ¬ s.heap.size ≤ a := fun a h => Nat.not_le.mpr h
  obtain ⟨ad, had⟩ := am_lit_st _ s hgv s.heap.size hB
  have hs := flat_of_before _ hgv
  obtain ⟨tk, htk, hTk⟩ := va_Tof (tm := .static "LockOrchestra" "MOST_OF_KIND" "[I") (ty := .int) (N := 4) (f := fun j => .int (([4, 6, 6, 5] : List Int32).getD j 0)) (A := fun q => s.heap.size ≤ q) (by decide) (hs _ (by decide +kernel)) (va_eqt (hs _ (by decide +kernel))) (fun j hj => by
    match j, hj with
    | 0, _ => exact va_eqt (hs _ (by decide +kernel))
    | 1, _ => exact va_eqt (hs _ (by decide +kernel))
    | 2, _ => exact va_eqt (hs _ (by decide +kernel))
    | 3, _ => exact va_eqt (hs _ (by decide +kernel))
    | j + 4, hj => omega) hB
  have hT : va_T .int b L (fun j => .int (xs j)) (fun q => s.heap.size ≤ q) s s.heap := by
    obtain ⟨scr, h1, h2, h3, h4, h5⟩ := hX
    exact ⟨scr, h1, h2, h3, by omega, by rw [h4], h5, hB b hbl⟩
  obtain ⟨bz, tz, hZ⟩ : ∃ (bz : Bool) (tz : Nat), va_Z "jdk/internal/util/Preconditions" "SIOOBE_FORMATTER" "Ljava/util/function/BiFunction;" (if bz = true then .ref tz else .null) (fun q => s.heap.size ≤ q) s s.heap := by
    rcases va_Zqof (hts _ am_lsP) (hts _ am_inP) (hs _ (by decide +kernel)) hB with h | ⟨t, h⟩
    · exact ⟨false, 0, h⟩
    · exact ⟨true, t, h⟩
  obtain ⟨ra, hra⟩ : ∃ ra : Nat → Nat, ra = fun k => if k = 2000002 then b else if k = 2000003 then tz else if k = 2000001 then b else if k = 2000000 then tk else if (k - 1000000) % 2 = 0 then (ad ((k - 1000000) / 2)).1 else (ad ((k - 1000000) / 2)).2 := ⟨_, rfl⟩
  have hlen : am_lit.length ≤ 100 := by decide
  have e1 : ∀ i, i < am_lit.length → ra (1000000 + 2 * i) = (ad i).1 := by
    intro i hi
    rw [hra]
    show (if _ then _ else _) = _
    rw [if_neg (by omega), if_neg (by omega), if_neg (by omega), if_neg (by omega), if_pos (by omega), show (1000000 + 2 * i - 1000000) / 2 = i by omega]
  have e2 : ∀ i, i < am_lit.length → ra (1000000 + 2 * i + 1) = (ad i).2 := by
    intro i hi
    rw [hra]
    show (if _ then _ else _) = _
    rw [if_neg (by omega), if_neg (by omega), if_neg (by omega), if_neg (by omega), if_neg (by omega), show (1000000 + 2 * i + 1 - 1000000) / 2 = i by omega]
  have e3 : ra 2000001 = b := by rw [hra]; rfl
  have e4 : ra 2000000 = tk := by rw [hra]; rfl
  have e5 : ra 2000002 = b := by rw [hra]; rfl
  have e6 : ra 2000003 = tz := by rw [hra]; rfl
  refine ⟨ra, bz, e3, fun k r hk => ?_, fun i hi => ?_, fun i r hr => ?_, va_Zof (hts _ am_lsC) (hts _ am_inS) (va_eqi (hs _ (by decide +kernel))) hB, ?_, fun q hq => ?_, ?_, am_ao_of (hts _ am_aoM)⟩
  · unfold am_E at hk
    by_cases k0 : k = 2000002
    · rw [if_pos k0] at hk
      cases bz with
      | false => cases hk
      | true =>
        cases hk
        rw [k0, e5]
        exact Or.inl ⟨rfl, hT⟩
    rw [if_neg k0] at hk
    by_cases k1 : k = 2000001
    · rw [if_pos k1] at hk
      cases hk
      rw [k1, e3]
      exact Or.inl ⟨rfl, hT⟩
    · rw [if_neg k1] at hk
      by_cases k2 : k = 2000000
      · rw [if_pos k2] at hk
        cases hk
        rw [k2, e4]
        exact Or.inl ⟨rfl, hTk⟩
      · rw [if_neg k2] at hk
        by_cases k3 : 1000000 ≤ k ∧ (k - 1000000) % 2 = 1
        · rw [if_pos k3] at hk
          obtain ⟨i, hi⟩ : ∃ i, i = (k - 1000000) / 2 := ⟨_, rfl⟩
          rw [← hi] at hk
          have hki : k = 1000000 + 2 * i + 1 := by omega
          cases hr : am_lit[i]? with
          | none => rw [hr] at hk; cases hk
          | some q =>
            rw [hr] at hk
            cases hk
            rw [hki, e2 i (List.getElem?_eq_some_iff.mp hr).1]
            exact Or.inr ⟨rfl, (had i q hr).2.2.2.2⟩
        · rw [if_neg k3] at hk
          cases hk
  · have := had i _ (List.getElem?_eq_getElem hi)
    rw [e1 i hi, e2 i hi]
    exact ⟨this.2.1, this.2.2.1, this.2.2.2.1⟩
  · have hi : i < am_lit.length := (List.getElem?_eq_some_iff.mp hr).1
    rw [e1 i hi]
    have hk := am_lit_ok r (List.mem_of_getElem? hr)
    simp only [am_lk1, Bool.and_eq_true, decide_eq_true_eq] at hk
    exact vk_R.of (hts _ (List.mem_append_right _ hk.2)) (had i r hr).1
  · rw [e4, e6]
    refine ⟨va_Zof (hts _ am_lsM) (hts _ am_inO) htk hB, ?_⟩
    cases bz with
    | false => exact hZ
    | true => exact hZ
  · exact va_Nw.of rfl (hts _ (am_nst_in _ hq))
  · exact va_Nw.of rfl (hts _ am_fnM)
theorem am_start {p : Program} {e : Env} {s : State} {m : MethodId} {below : List Frame} {meth : Method} {c : Code} (hM : ∀ {j : Nat} {N : am_M}, am_tab j = some N → am_okD N = true) (hML : am_okD am_mL = true) (l : Launch) {b L : Nat} {xs : Nat → Int32} (C0 : lw_At p s m meth c b L xs) (hrun0 : ∀ bz : Bool, ∃ (fu : Nat) (hp1 : am_H), am_run (am_E L xs bz) fu 2000 am_mL 0 [(0, .ref 2000001)] [] [] = some (some (.int 1), hp1) ∧ hp1.length ≤ room_1.cells ∧ am_sz hp1 ≤ room_1.slots) : W p l e room_1 s m #[Value.ref b] below meth c s.heap [] 0 0 (lw_Z below #[Value.ref b] s) (entryFrame m ([Value.ref b] : List Value).toArray 4) := by
  obtain ⟨ra, bz, e3, hro⟩ := am_RO0 C0
  obtain ⟨fu, hp1, hrun, h1, h2⟩ := hrun0 bz
  obtain ⟨hx, hb, hr, hml, hown, hts, hX, hbl, hlocks, hgv⟩ := C0
  obtain ⟨D, cA, hK⟩ := am_K0 hts
  have F : am_Fr D s.heap.size ra cA (am_E L xs bz) 0 2000 am_mL p room_1 s m #[Value.ref b] meth c :=
    ⟨hx, hb, hml, hown, fun w hw => hts w (List.mem_filter.mp hw).1, hK, hro, hr, hlocks, (fun h => by cases h), rfl, by decide, by decide, hML, by decide, by decide⟩
  have A := am_run_ok hM l D s.heap.size ra cA (am_E L xs bz) fu 2000 am_mL 0 _ _ _ _ _ hrun 0 hp1.length (am_sz hp1) p e room_1 s m #[Value.ref b] below meth c (lw_Z below #[Value.ref b] s) F (Nat.le_refl _) (Nat.le_refl _) (Nat.le_refl _) (fun pc' i ls' st' hi hret => by
    intro H locs lsA cells slots hP hS hl hc hs hnn
    obtain ⟨nn, hdg0, hn⟩ := am_dec hML hi
    have hcl : cells + 0 = hp1.length := hc
    have hsl : slots + am_sz hp1 ≤ room_1.slots + am_sz hp1 := hs
    unfold am_ret at hret
    split at hret
    · split at hret
      · cases hret
      · cases hret
    · obtain rfl : nn = 1 := hn.resolve_left (by simp [am_ln])
      split at hret
      · next x ty hrt =>
        split at hret
        · cases hret
          refine va_forget (fun q hq => hS.2.2 q hq) ?_
          refine W.widen (k := room_1.cells) (n := room_1.slots) (by omega) (by omega) ?_
          exact lw_ret hx hb hr hlocks hdg0
        · cases hret
      · cases hret
    · split at hret
      · cases hret
      · cases hret
    · split at hret
      · cases hret
      · cases hret
      · cases hret
    · cases hret)
  rw [lg_entry_eq]
  have hl := lv_entry ([.ref b] : List Value) (n := 4) (Nat.le_of_ble_eq_true rfl)
  refine A s.heap [] _ 0 0 (fun k q h => by simp [am_w] at h) va_S.rf ?_ rfl (by show 0 + am_sz hp1 ≤ room_1.slots + am_sz []; rw [show am_sz [] = 0 from rfl]; omega) (by omega)
  have e5 : am_q s.heap.size ra [(0, .ref 2000001)] = [(0, .ref b)] := by
    show [(0, am_v s.heap.size ra (.ref 2000001))] = _
    rw [am_v_hi (by decide), e3]
  show lv_has _ _ (am_q s.heap.size ra [(0, .ref 2000001)])
  rw [e5]
  exact hl
