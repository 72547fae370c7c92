/-! calls; the run of a method -/
theorem am_ofW {l : Launch} {y : MethodName} {ws ws' : List Cond} {rm : Room} {Pc : Array Value → State → Prop} {Qc : Array Value → State → Outcome → State → Prop} {mc ms : Nat} {free : Addr → Prop} {cc : ByteArray} {maxL : Nat} {ret : Option FieldType}
    (hy : plainFor y = true) (hw : ws = Cond.code y cc maxL ret :: ws')
    (body : ∀ p e s m args below meth c s₁, BodyLoose p l y (headSpec ws rm) cc maxL ret e s m args below meth c s₁ → c.maxLocals = maxL → Pc args s →
      W p l e rm s m args below meth c s.heap [] 0 0 (MQ below Qc args s mc ms free) (entryFrame m args maxL)) : Met l y ws rm Pc Qc mc ms free := by
  refine MetFree.of_bodySF (code := cc) (maxLocals := maxL) (ret := ret) hy ?_ ?_
  · intro args s m h hn
    obtain ⟨meth, c, h1, h2, h3, h4, h5, h6, -, -⟩ := Cond.code_spec hn (atoms_spec (ws := ws) h _ (by rw [hw]; exact List.mem_cons_self))
    exact ⟨meth, c, h1, h2, h3, h4, h5, h6⟩
  · intro p e s m args below meth c s₁ Bd hml hP _
    have hh0 : s₁.heap = s.heap := by rw [Bd.state]; rfl
    obtain ⟨t, a1, o, b1, b2, b3⟩ := body p e s m args below meth c s₁ Bd hml hP s₁ hh0 (Stand.of_body Bd)
    exact ⟨t, o, a1, b1, b2, ⟨b3.1, b3.2⟩⟩
/-- the words of a method: its code, and all others -/
def am_mw (N : am_M) : List Cond := Cond.code (am_y N) (am_cc N) (am_ml N) (am_rt N) :: am_G
def am_rm (d mc ms : Nat) : Room := { frames := d + 1, cells := mc, slots := ms, locals := 40 * d + 60 }
/-- a call's start and end -/
def am_B (D : va_G) (B : Nat) (ra : Nat → Nat) (cA : Nat → ClassId) (E : am_Env) (hp : am_H) (U : State) : Prop := U.heap.size = B + hp.length ∧ va_P D am_cl (am_w B ra cA hp) U.heap ∧ va_K D am_cl (am_tys cA) U ∧ am_RO B ra E U
def am_Qc (D : va_G) (B : Nat) (ra : Nat → Nat) (cA : Nat → ClassId) (r : Option Value) (hp1 : am_H) : Array Value → State → Outcome → State → Prop := fun _ st o t => (o = .returned (r.map (am_v B ra)) ∧ va_P D am_cl (am_w B ra cA hp1) t.heap) ∧ va_F (fun q => B ≤ q) st t
def am_Met (l : Launch) (D : va_G) (B : Nat) (ra : Nat → Nat) (cA : Nat → ClassId) (E : am_Env) (d : Nat) (N : am_M) (as : List Value) (hp : am_H) (r : Option Value) (hp1 : am_H) : Prop :=
  Met l (am_y N) (am_mw N) (am_rm d (hp1.length - hp.length) (am_sz hp1 - am_sz hp)) (va_Pc (as.map (am_v B ra)) (am_B D B ra cA E hp)) (am_Qc D B ra cA r hp1) (hp1.length - hp.length) (am_sz hp1 - am_sz hp) (fun q => B ≤ q)
theorem am_good {N : am_M} (hC : Cond.code (am_y N) (am_cc N) (am_ml N) (am_rt N) ∈ am_G) : GoodIn am_G (am_mw N) := by
  intro w hw
  have hm : w ∈ am_G := by
    rcases List.mem_cons.mp hw with h | h
    · rw [h]; exact hC
    · exact h
  exact ⟨hm, good_of_word (List.mem_filter.mp hm).2⟩
section AMR
variable {D : va_G} {B : Nat} {ra : Nat → Nat} {cA : Nat → ClassId} {E : am_Env} {n0 n1 z1 d : Nat} {M N : am_M} {p : Program} {l : Launch} {e : Env} {R : Room} {s : State} {m : MethodId} {args : Array Value} {below : List Frame} {meth : Method} {c : Code} {Q : State → Prop}
theorem am_B.blind {as : List Value} {hp : am_H} : FrameBlind (va_Pc as (am_B D B ra cA E hp)) := by
  intro a U g mk h
  obtain ⟨h1, h2, h3, h4, h5⟩ := h
  exact ⟨h1, h2, h3, va_K.moved (u := U) (U := U.calling g mk a) (Vm.Alike.refl U.vm) h4, am_RO.on (s := U) (U := U.calling g mk a) h5 (State.WarmedH.refl U) (fun _ _ _ => rfl)⟩
theorem am_B.at {hp : am_H} {H : Heap} {locs : List Loc} (hP : va_P D am_cl (am_w B ra cA hp) H) (hz : H.size = B + hp.length) (hK : va_K D am_cl (am_tys cA) s) (hro : am_RO B ra E s) (hS : va_S (fun q => B ≤ q) s.heap H locs) : ∀ U : State, U.heap = H → s.WarmedH U.vm → am_B D B ra cA E hp U := by
  intro U hU hW
  exact ⟨by rw [hU]; exact hz, by rw [hU]; exact hP, va_K.moved hW.alike hK, hro.on hW (fun q h1 h2 => by rw [hU]; exact hS.2.1 q h1 h2)⟩
/-- behind a call -/
theorem am_behind {H : Heap} {locs : List Loc} {cells slots mc ms pc : Nat} {lsA : Array Slot} {st0 rest : List Value} {a : Array Value} {r : Option Value} {hp1 : am_H} (hr : va_Run p l e R s m args below meth c H locs cells slots mc ms (F0 m pc lsA st0) rest (am_Qc D B ra cA r hp1 a) (fun q => B ≤ q)) (hS : va_S (fun q => B ≤ q) s.heap H locs)
    (kk : ∀ (H1 : Heap) (locs1 : List Loc), va_P D am_cl (am_w B ra cA hp1) H1 → va_S (fun q => B ≤ q) s.heap H1 locs1 → W p l e R s m args below meth c H1 locs1 (cells + mc) (slots + ms) Q (F0 m (pc + 3) lsA ((r.map (am_v B ra)).toList ++ rest))) : W p l e R s m args below meth c H locs cells slots Q (F0 m pc lsA st0) := by
  intro T hT X
  obtain ⟨v, st₀, t, T', L, h0, X', hL, e1, e2, ⟨⟨hv, hp⟩, hz, hk⟩, st⟩ := hr T hT X
  cases hv
  rw [h0] at hz hk
  obtain ⟨t2, a1, b1⟩ := kk T'.heap (locs ++ L) (by rw [e1]; exact hp) ⟨Nat.le_trans hS.1 (by rw [e1]; exact hz), fun q h1 h2 => by rw [e1, hk q (Nat.lt_of_lt_of_le h1 hS.1) h2]; exact hS.2.1 q h1 h2, fun q hq => by
      rcases List.mem_append.mp hq with h | h
      · exact hS.2.2 q h
      · exact hL q h⟩ T' rfl X'
  exact ⟨t2, st t2 a1, b1⟩
theorem am_sdN_ok {n : Nat} (h : am_sdN N n = true) : plainFor (am_y N) = true ∧ (am_y N).cls ≠ "java/lang/invoke/MethodHandle" ∧ (am_y N).cls ≠ "java/lang/invoke/VarHandle" ∧ (parseMethodDescriptor (am_y N).desc).map (fun d => d.parameters.length) = some n ∧ am_n (am_o N) = (am_y N).cls ∧ am_ml N ≤ 20 ∧ (am_ini N = true → (am_y N).name = "<init>") := of_decide_eq_true h
/-- a call, whichever -/
theorem am_call {i : Instr} {j : Nat} {v : Bool} (F : am_Fr D B ra cA E n0 (d + 1) M p R s m args meth c) {nn pc : Nat} {ls : am_L} {st : List Value} {hp hp1 : am_H} {r : Option Value} (hdg0 : decode (am_cc M) pc = .ok (i, nn)) (hn : am_ln i = 0 ∨ nn = am_ln i) (hcal : am_cal M i = some (j, v)) (hN : am_tab j = some N)
    (hna : am_na N ≤ st.length) (hcat : ((st.drop (am_na N)).map fun v => v.category).sum ≤ 8) (hrcv : v = true → am_rcv N (st.take (am_na N)).reverse hp = true) (hmono : hp.length ≤ hp1.length ∧ am_sz hp ≤ am_sz hp1) (hfin : hp1.length ≤ n1 ∧ am_sz hp1 ≤ z1) (h0 : n0 ≤ hp.length)
    (hMet : am_Met l D B ra cA E d N (st.take (am_na N)).reverse hp r hp1)
    (kk : am_AW D B ra cA n0 n1 z1 M p l e R s m args below meth c Q (pc + 3, ls, r.toList ++ st.drop (am_na N), hp1)) : am_AW D B ra cA n0 n1 z1 M p l e R s m args below meth c Q (pc, ls, st, hp) := by
  intro H locs lsA cells slots hP hS hl hc hs hnn
  have hsplit : st = (st.take (am_na N)).reverse.reverse ++ st.drop (am_na N) := by rw [List.reverse_reverse, List.take_append_drop]
  have hlen : (st.take (am_na N)).reverse.length = am_na N := by rw [List.length_reverse, List.length_take]; exact Nat.min_eq_left hna
  generalize (st.take (am_na N)).reverse = as at hsplit hlen hMet hrcv
  generalize st.drop (am_na N) = rest at hsplit hcat kk
  subst hsplit
  obtain ⟨hx, hb, hml, hown, hts, hK, hro, hr, hlk, hini, hB, hR1, hR2, hok, hR3, hR4⟩ := F
  have hcl : cells + n0 = hp.length := hc
  have hsl : slots + z1 ≤ R.slots + am_sz hp := hs
  have hP : va_P D am_cl (am_w B ra cA hp) H := hP
  refine am_bd (fun hbd => ?_)
  have hz : H.size = B + hp.length := by
    have := am_lo hP hS hB h0
    omega
  have hC : Cond.code (am_y N) (am_cc N) (am_ml N) (am_rt N) ∈ am_G := am_okC hN
  have hG := am_good hC
  have hPre := am_B.at hP hz hK hro hS
  have hroom : (am_rm d (hp1.length - hp.length) (am_sz hp1 - am_sz hp)).frames + 1 ≤ R.frames := by show d + 1 + 1 ≤ _; omega
  have hfit : cells + (hp1.length - hp.length) ≤ R.cells ∧ slots + (am_sz hp1 - am_sz hp) ≤ R.slots := by omega
  have hW8 : 2 * (F0 m pc lsA ((as.reverse ++ rest).map (am_v B ra))).monitorRoom + ((rest.map (am_v B ra)).map fun v => v.category).sum ≤ 8 := by
    rw [am_cats]
    show 2 * 0 + _ ≤ 8
    omega
  have kk' : ∀ (H1 : Heap) (locs1 : List Loc), va_P D am_cl (am_w B ra cA hp1) H1 → va_S (fun q => B ≤ q) s.heap H1 locs1 → W p l e R s m args below meth c H1 locs1 (cells + (hp1.length - hp.length)) (slots + (am_sz hp1 - am_sz hp)) Q (F0 m (pc + 3) lsA ((r.map (am_v B ra)).toList ++ rest.map (am_v B ra))) := by
    intro H1 locs1 hP1 hS1
    have k2 := kk H1 locs1 lsA (cells + (hp1.length - hp.length)) (slots + (am_sz hp1 - am_sz hp)) hP1 hS1 hl (by show _ = hp1.length; omega) (by show _ ≤ R.slots + am_sz hp1; omega) hnn
    have e1 : (r.toList ++ rest).map (am_v B ra) = (r.map (am_v B ra)).toList ++ rest.map (am_v B ra) := by cases r <;> simp
    rw [← e1]
    exact k2
  have hCF : CallFix p m c (am_cc M) (am_ml M) s args am_G (am_n (am_o M)) := ⟨hx, hb, hml, hown, hts⟩
  have hstk : (as.reverse ++ rest).map (am_v B ra) = (as.map (am_v B ra)).reverse ++ rest.map (am_v B ra) := by rw [List.map_append, List.map_reverse]
  unfold am_cal at hcal
  split at hcal
  · next x =>
    obtain rfl : nn = 3 := hn.resolve_left (by simp [am_ln])
    split at hcal
    · next j' _ hpl =>
      cases hcal
      obtain ⟨h1, h2⟩ := am_pl_ok hpl
      simp only [am_ws, hN] at h1
      simp only [am_sd, hN, Bool.and_eq_true, Bool.or_eq_true, decide_eq_true_eq] at h2
      obtain ⟨⟨h3, h4⟩, h5⟩ := h2
      obtain ⟨g1, g2, g3, g4, g5, g6, g7⟩ := am_sdN_ok h3
      match as, hlen, hrcv, hMet, hstk with
      | [], hlen, _, _, _ => simp at hlen; omega
      | a0 :: at0, hlen, hrcv, hMet, hstk =>
        have hrc := hrcv rfl
        cases a0 with
        | ref b =>
          have hrecv : ∃ cellB : Cell, H[am_ad B ra b]? = some cellB ∧ cellB.vm.isStatics = false ∧ s.vm.findClass (am_y N).cls = some cellB.cls := by
            simp only [am_rcv] at hrc
            by_cases hb1 : b < 1000000
            · rw [if_pos hb1] at hrc
              split at hrc
              · next ci fs hcell =>
                have hci : ci = am_o N := of_decide_eq_true hrc
                subst hci
                rcases h5 with h5 | h5
                · rw [h5] at hcell
                  obtain ⟨q, hq, -⟩ := hP b _ (am_w_at hcell)
                  simp [am_cl] at hq
                · split at h5
                  · next q hq =>
                    have h6 : q.1 = (am_y N).cls := of_decide_eq_true h5
                    have := va_recv hK hP hq (am_w_at hcell)
                    rw [h6] at this
                    unfold am_ad
                    rw [if_pos hb1]
                    exact this
                  · cases h5
              · cases hrc
            · rw [if_neg hb1] at hrc
              simp only [decide_eq_true_eq] at hrc
              obtain ⟨i, hi, rfl⟩ := am_half ⟨Nat.not_lt.mp hb1, hrc.2⟩
              obtain ⟨cell, k1, k2, k3, -⟩ := (hro.2.1 i hi).1.kept hS.2.1
              unfold am_ad
              rw [if_neg hb1, ← g5, hrc.1]
              exact ⟨cell, k1, k2, k3⟩
            
          refine am_behind (va_runV (C := (am_y N).cls) (b := am_ad B ra b) (As := at0.map (am_v B ra)) (rest := rest.map (am_v B ra)) hCF hMet ⟨callB_of (am_na N - 1) hts hG rfl rfl rfl (hts _ (h1 _ (by simp))) (hts _ (h1 _ (by simp))) ⟨g2, g3, g4⟩ ⟨hroom, by show 8 + (am_ml N + 11) + (40 * d + 60) ≤ _; omega⟩, hts _ (h1 _ (by simp)), hts _ (h1 _ (by simp))⟩ ⟨am_B.blind, hrecv, fun U hU hW => ⟨rfl, hPre U hU hW⟩⟩ rfl (by simp at hlen ⊢; omega) hl.1 ?_ hW8 hdg0 hfit) hS kk'
          show ((Value.ref b :: at0).reverse ++ rest).map (am_v B ra) = _
          rw [hstk, List.map_cons, List.reverse_cons, List.append_assoc]
          rfl
        | _ => simp [am_rcv] at hrc
    · next j' b' hpl =>
      cases hcal
      obtain ⟨h1, h2⟩ := am_pl_ok hpl
      simp only [am_ws, hN] at h1
      simp only [am_sd, hN] at h2
      split at h2
      · next N' w hN' hw =>
        cases hN'
        simp only [Bool.and_eq_true, decide_eq_true_eq] at h2
        obtain ⟨⟨⟨h3, h4⟩, h5⟩, h7⟩ := h2
        obtain ⟨g1, g2, g3, g4, g5, g6, g7⟩ := am_sdN_ok h3
        obtain ⟨q, hq, hqe⟩ := List.mem_map.mp (List.mem_of_getElem? hw)
        have hnl : va_Nw (.methodLinkNest (am_n (am_o M)) x (am_y N) "LockOrchestra") s := by
          rw [← h7, ← hqe]
          exact hro.2.2.2.2.2.1 q hq
        match as, hlen, hrcv, hMet, hstk with
        | [], hlen, _, _, _ => simp at hlen; omega
        | a0 :: at0, hlen, hrcv, hMet, hstk =>
          have hrc := hrcv rfl
          cases a0 with
          | ref b =>
            have hrecv : ∃ cellB : Cell, H[am_ad B ra b]? = some cellB ∧ cellB.vm.isStatics = false ∧ s.vm.findClass (am_y N).cls = some cellB.cls := by
              simp only [am_rcv] at hrc
              by_cases hb1 : b < 1000000
              · rw [if_pos hb1] at hrc
                split at hrc
                · next ci fs hcell =>
                  have hci : ci = am_o N := of_decide_eq_true hrc
                  subst hci
                  split at h5
                  · next q hq =>
                    have h6 : q.1 = (am_y N).cls := of_decide_eq_true h5
                    have := va_recv hK hP hq (am_w_at hcell)
                    rw [h6] at this
                    unfold am_ad
                    rw [if_pos hb1]
                    exact this
                  · cases h5
                · cases hrc
              · rw [if_neg hb1] at hrc
                simp only [decide_eq_true_eq] at hrc
                obtain ⟨i, hi, rfl⟩ := am_half ⟨Nat.not_lt.mp hb1, hrc.2⟩
                obtain ⟨cell, k1, k2, k3, -⟩ := (hro.2.1 i hi).1.kept hS.2.1
                unfold am_ad
                rw [if_neg hb1, ← g5, hrc.1]
                exact ⟨cell, k1, k2, k3⟩
            refine am_behind (va_runVN (C := (am_y N).cls) (b := am_ad B ra b) (As := at0.map (am_v B ra)) (rest := rest.map (am_v B ra)) hCF hMet ⟨va_cnB (am_na N - 1) hts hG rfl rfl rfl hnl (hts _ (h1 _ (by simp))) ⟨g2, g3, g4⟩ ⟨hroom, by show 8 + (am_ml N + 11) + (40 * d + 60) ≤ _; omega⟩, hts _ (h1 _ (by simp)), hts _ (h1 _ (by simp))⟩ ⟨am_B.blind, hrecv, fun U hU hW => ⟨rfl, hPre U hU hW⟩⟩ rfl (by simp at hlen ⊢; omega) hl.1 ?_ hW8 hdg0 hfit) hS kk'
            show ((Value.ref b :: at0).reverse ++ rest).map (am_v B ra) = _
            rw [hstk, List.map_cons, List.reverse_cons, List.append_assoc]
            rfl
          | _ => simp [am_rcv] at hrc
      · cases h2
    · cases hcal
  · next x =>
    obtain rfl : nn = 3 := hn.resolve_left (by simp [am_ln])
    split at hcal
    · next j' _ hpl =>
      cases hcal
      obtain ⟨h1, h2⟩ := am_pl_ok hpl
      simp only [am_ws, hN] at h1
      simp only [am_sd, hN] at h2
      obtain ⟨g1, g2, g3, g4, g5, g6, g7⟩ := am_sdN_ok h2
      exact am_behind (va_runS (As := as.map (am_v B ra)) (rest := rest.map (am_v B ra)) hCF hMet ⟨callB_of (am_na N) hts hG rfl rfl rfl (hts _ (h1 _ (by simp))) (hts _ (h1 _ (by simp))) ⟨g2, g3, g4⟩ ⟨hroom, by show 8 + (am_ml N + 11) + (40 * d + 60) ≤ _; omega⟩, hts _ (h1 _ (by simp))⟩ ⟨am_B.blind, fun U hU hW => ⟨rfl, hPre U hU hW⟩⟩ rfl (by rw [List.length_map]; exact hlen) hl.1 hstk hW8 hdg0 hfit) hS kk'
    · next j' b' hpl =>
      cases hcal
      obtain ⟨h1, h2⟩ := am_pl_ok hpl
      simp only [am_ws, hN] at h1
      simp only [am_sd, hN] at h2
      split at h2
      · next N' w hN' hw =>
        cases hN'
        simp only [Bool.and_eq_true, decide_eq_true_eq] at h2
        obtain ⟨g1, g2, g3, g4, g5, g6, g7⟩ := am_sdN_ok h2.1
        obtain ⟨q, hq, hqe⟩ := List.mem_map.mp (List.mem_of_getElem? hw)
        have hnl : va_Nw (.methodLinkNest (am_n (am_o M)) x (am_y N) "LockOrchestra") s := by
          rw [← h2.2, ← hqe]
          exact hro.2.2.2.2.2.1 q hq
        exact am_behind (va_runSN (As := as.map (am_v B ra)) (rest := rest.map (am_v B ra)) hCF hMet ⟨va_cnB (am_na N) hts hG rfl rfl rfl hnl (hts _ (h1 _ (by simp))) ⟨g2, g3, g4⟩ ⟨hroom, by show 8 + (am_ml N + 11) + (40 * d + 60) ≤ _; omega⟩, hts _ (h1 _ (by simp)), trivial⟩ ⟨am_B.blind, fun U hU hW => ⟨rfl, hPre U hU hW⟩⟩ rfl (by rw [List.length_map]; exact hlen) hl.1 hstk hW8 hdg0 hfit) hS kk'
      · cases h2
    · cases hcal
  · next x =>
    obtain rfl : nn = 3 := hn.resolve_left (by simp [am_ln])
    split at hcal
    · next j' _ hpl =>
      cases hcal
      obtain ⟨h1, h2⟩ := am_pl_ok hpl
      simp only [am_ws, hN] at h1
      simp only [am_sd, hN, Bool.and_eq_true, decide_eq_true_eq] at h2
      obtain ⟨h3, h4, h5, h6⟩ := h2
      obtain ⟨g1, g2, g3, g4, g5, g6, g7⟩ := am_sdN_ok h3
      match as, hlen, hrcv, hMet, hstk with
      | [], hlen, _, _, _ => simp at hlen; omega
      | a0 :: at0, hlen, hrcv, hMet, hstk =>
        have hrc := hrcv rfl
        cases a0 with
        | ref b =>
          refine am_behind (va_runI (b := am_ad B ra b) (As := at0.map (am_v B ra)) (rest := rest.map (am_v B ra)) (bytes := am_cc N) (maxL := am_ml N) hCF hMet ⟨by rw [← h6]; exact callB_of (am_na N - 1) hts hG rfl rfl rfl (hts _ (h1 _ (by simp))) (hts _ (h1 _ (by simp))) ⟨g2, g3, g4⟩ ⟨hroom, by show 8 + (am_ml N + 11) + (40 * d + 60) ≤ _; omega⟩, h5, hts _ (h1 _ (by simp))⟩ ⟨am_B.blind, fun U hU hW => ⟨rfl, hPre U hU hW⟩⟩ rfl (by simp at hlen ⊢; omega) hl.1 ?_ hW8 hdg0 hfit) hS kk'
          show ((Value.ref b :: at0).reverse ++ rest).map (am_v B ra) = _
          rw [hstk, List.map_cons, List.reverse_cons, List.append_assoc]
          rfl
        | _ => simp [am_rcv] at hrc
    · next j' b' hpl =>
      cases hcal
      obtain ⟨h1, h2⟩ := am_pl_ok hpl
      simp only [am_ws, hN] at h1
      simp only [am_sd, hN] at h2
      split at h2
      · next N' w hN' hw =>
        cases hN'
        simp only [Bool.and_eq_true, decide_eq_true_eq] at h2
        obtain ⟨⟨h3, h4, h5, h6⟩, h7⟩ := h2
        obtain ⟨g1, g2, g3, g4, g5, g6, g7⟩ := am_sdN_ok h3
        obtain ⟨q, hq, hqe⟩ := List.mem_map.mp (List.mem_of_getElem? hw)
        have hnl : va_Nw (.methodLinkNest (am_n (am_o M)) x (am_y N) "LockOrchestra") s := by
          rw [← h7, ← hqe]
          exact hro.2.2.2.2.2.1 q hq
        match as, hlen, hrcv, hMet, hstk with
        | [], hlen, _, _, _ => simp at hlen; omega
        | a0 :: at0, hlen, hrcv, hMet, hstk =>
          have hrc := hrcv rfl
          cases a0 with
          | ref b =>
            refine am_behind (va_runIN (b := am_ad B ra b) (As := at0.map (am_v B ra)) (rest := rest.map (am_v B ra)) (bytes := am_cc N) (maxL := am_ml N) hCF hMet ⟨by rw [← h6]; exact va_cnB (am_na N - 1) hts hG rfl rfl rfl hnl (hts _ (h1 _ (by simp))) ⟨g2, g3, g4⟩ ⟨hroom, by show 8 + (am_ml N + 11) + (40 * d + 60) ≤ _; omega⟩, h5, hts _ (h1 _ (by simp))⟩ ⟨am_B.blind, fun U hU hW => ⟨rfl, hPre U hU hW⟩⟩ rfl (by simp at hlen ⊢; omega) hl.1 ?_ hW8 hdg0 hfit) hS kk'
            show ((Value.ref b :: at0).reverse ++ rest).map (am_v B ra) = _
            rw [hstk, List.map_cons, List.reverse_cons, List.append_assoc]
            rfl
          | _ => simp [am_rcv] at hrc
      · cases h2
    · cases hcal
  · cases hcal
end AMR
