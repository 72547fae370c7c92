/-! reasoning about runs: a method ends from a state, with an answer and the cells behind it, and makes no cell -/
theorem am_run_up (E : am_Env) : ∀ (fu d : Nat) (M : am_M) (pc : Nat) (ls : am_L) (st : List Value) (hp : am_H) (r : Option Value × am_H), am_run E fu d M pc ls st hp = some r → ∀ k : Nat, am_run E (fu + k) d M pc ls st hp = some r := by
  intro fu
  induction fu with
  | zero => intro d M pc ls st hp r h; cases h
  | succ fu ih =>
    intro d M pc ls st hp r h k
    rw [show fu + 1 + k = (fu + k) + 1 by omega]
    unfold am_run at h ⊢
    split at h
    · cases h
    · next i hi =>
      split at h
      · next r0 hr0 =>
        try simp only [hi, hr0]
        exact h
      · next hr0 =>
        split at h
        · next j v hcal =>
          split at h
          · next d' N hN =>
            split at h
            · next hcnd =>
              split at h
              · next r1 hp2 hrun =>
                simp only [hi, hr0, hcal, hN, if_pos hcnd, ih _ _ _ _ _ _ _ hrun k]
                exact ih _ _ _ _ _ _ _ h k
              · cases h
            · cases h
          · cases h
        · next hcal =>
          split at h
          · next pc' ls' st' hp' hone =>
            try simp only [hi, hr0, hcal, hone]
            exact ih _ _ _ _ _ _ _ h k
          · next hone =>
            split at h
            · next pc' ls' st' hp' hmk =>
              try simp only [hi, hr0, hcal, hone, hmk]
              exact ih _ _ _ _ _ _ _ h k
            · cases h
def am_end (E : am_Env) (d : Nat) (M : am_M) (C : am_C) (r : Option Value) (hp1 : am_H) : Prop := (∃ fu, am_run E fu d M C.1 C.2.1 C.2.2.1 C.2.2.2 = some (r, hp1)) ∧ hp1.length = C.2.2.2.length ∧ am_sz hp1 = am_sz C.2.2.2
/-- one instruction, no call, no return -/
def am_stp (E : am_Env) (M : am_M) (C : am_C) : Option am_C := match (am_cd M).lookup C.1 with
  | none => none
  | some i => match am_ret M i C.2.2.1 with
    | some _ => none
    | none => match am_cal M i with
      | some _ => none
      | none => am_one E M i C.1 C.2.1 C.2.2.1 C.2.2.2
def am_sts (E : am_Env) (M : am_M) : Nat → am_C → Option am_C
  | 0, C => some C
  | n + 1, C => match am_stp E M C with
    | some C' => am_sts E M n C'
    | none => none
section AME
variable {E : am_Env} {d : Nat} {M N : am_M} {r : Option Value} {hp hp1 : am_H} {C C' : am_C}
theorem am_e_stp (h : am_stp E M C = some C') (k : am_end E d M C' r hp1) : am_end E d M C r hp1 := by
  obtain ⟨⟨fu, hf⟩, h1, h2⟩ := k
  unfold am_stp at h
  split at h
  · cases h
  · next i hi =>
    split at h
    · cases h
    · next hr0 =>
      split at h
      · cases h
      · next hcal =>
        have hz := am_one_sz h
        refine ⟨⟨fu + 1, ?_⟩, by rw [h1, hz.1], by rw [h2, hz.2]⟩
        unfold am_run
        simp only [hi, hr0, hcal, h]
        exact hf
theorem am_ev (n : Nat) (h : am_sts E M n C = some C') (k : am_end E d M C' r hp1) : am_end E d M C r hp1 := by
  induction n generalizing C with
  | zero => cases h; exact k
  | succ n ih =>
    unfold am_sts at h
    split at h
    · next C2 h2 => exact am_e_stp h2 (ih h)
    · cases h
theorem am_e_ret {pc : Nat} {ls : am_L} {st : List Value} {i : Instr} (hi : (am_cd M).lookup pc = some i) (h : am_ret M i st = some r) : am_end E d M (pc, ls, st, hp) r hp := by
  refine ⟨⟨1, ?_⟩, rfl, rfl⟩
  show am_run E (0 + 1) d M pc ls st hp = _
  unfold am_run
  simp only [hi, h]
theorem am_e_call {pc : Nat} {ls : am_L} {st : List Value} {i : Instr} {j : Nat} {v : Bool} {r1 : Option Value} {hp2 : am_H} (as rest : List Value) (hi : (am_cd M).lookup pc = some i) (hr : am_ret M i st = none) (hc : am_cal M i = some (j, v)) (hN : am_tab j = some N) (hs : as.reverse ++ rest = st) (hl : as.length = am_na N)
    (hcat : (rest.map fun v => v.category).sum ≤ 8) (hrc : v = true → am_rcv N as hp = true) (hml : (lg_sl as).length ≤ am_ml N) (h1 : am_end E d N (0, lv_args 0 as, [], hp) r1 hp2) (h2 : am_end E (d + 1) M (pc + 3, ls, r1.toList ++ rest, hp2) r hp1) : am_end E (d + 1) M (pc, ls, st, hp) r hp1 := by
  subst hs
  obtain ⟨⟨f1, e1⟩, g1, g2⟩ := h1
  obtain ⟨⟨f2, e2⟩, g3, g4⟩ := h2
  have t1 : (as.reverse ++ rest).take (am_na N) = as.reverse := by rw [← hl, ← List.length_reverse, List.take_left]
  have t2 : (as.reverse ++ rest).drop (am_na N) = rest := by rw [← hl, ← List.length_reverse, List.drop_left]
  refine ⟨⟨(f1 + f2) + 1, ?_⟩, by rw [g3, g1], by rw [g4, g2]⟩
  show am_run E ((f1 + f2) + 1) (d + 1) M pc ls (as.reverse ++ rest) hp = _
  unfold am_run
  simp only [hi, hr, hc, hN, t1, t2, List.reverse_reverse]
  rw [if_pos ⟨by simp [hl], hcat, hrc, hml⟩]
  have e1' := am_run_up E _ _ _ _ _ _ _ _ e1 f2
  have e2' := am_run_up E _ _ _ _ _ _ _ _ e2 f1
  rw [Nat.add_comm f2 f1] at e2'
  rw [e1']
  exact e2'
/-- a branch -/
theorem am_e_if {pc : Nat} {ls : am_L} {x : Int32} {st : List Value} {cd : ClassFile.Cond} {off : Int} {t : Nat} (hi : (am_cd M).lookup pc = some (.ifCond cd off)) (ht : am_to pc off = some t) (h1 : am_cc2 cd x 0 = true → am_end E d M (t, ls, st, hp) r hp1) (h2 : am_cc2 cd x 0 = false → am_end E d M (pc + 3, ls, st, hp) r hp1) : am_end E d M (pc, ls, .int x :: st, hp) r hp1 := by
  refine am_e_stp (C' := (if am_cc2 cd x 0 = true then t else pc + 3, ls, st, hp)) ?_ ?_
  · unfold am_stp
    simp only [hi]
    show am_one E M (.ifCond cd off) pc ls (.int x :: st) hp = _
    simp only [am_one, ht]
  · cases hc : am_cc2 cd x 0 with
    | true => exact h1 hc
    | false => exact h2 hc
theorem am_e_icmp {pc : Nat} {ls : am_L} {x y : Int32} {st : List Value} {cd : ClassFile.Cond} {off : Int} {t : Nat} (hi : (am_cd M).lookup pc = some (.if_icmp cd off)) (ht : am_to pc off = some t) (h1 : am_cc2 cd x y = true → am_end E d M (t, ls, st, hp) r hp1) (h2 : am_cc2 cd x y = false → am_end E d M (pc + 3, ls, st, hp) r hp1) : am_end E d M (pc, ls, .int y :: .int x :: st, hp) r hp1 := by
  refine am_e_stp (C' := (if am_cc2 cd x y = true then t else pc + 3, ls, st, hp)) ?_ ?_
  · unfold am_stp
    simp only [hi]
    show am_one E M (.if_icmp cd off) pc ls (.int y :: .int x :: st) hp = _
    simp only [am_one, ht]
  · cases hc : am_cc2 cd x y with
    | true => exact h1 hc
    | false => exact h2 hc
end AME
/-- many instructions, calls among them -/
def am_go (E : am_Env) (fu d : Nat) (M : am_M) : Nat → am_C → Option am_C
  | 0, C => some C
  | n + 1, (pc, ls, st, hp) => match (am_cd M).lookup pc with
    | none => none
    | some i => match am_ret M i st with
      | some _ => none
      | none => match am_cal M i with
        | some (j, v) => match d, am_tab j with
          | d' + 1, some N => if am_na N ≤ st.length ∧ ((st.drop (am_na N)).map fun v => v.category).sum ≤ 8 ∧ (v = true → am_rcv N (st.take (am_na N)).reverse hp = true) ∧ (lg_sl (st.take (am_na N)).reverse).length ≤ am_ml N then
              (match am_run E fu d' N 0 (lv_args 0 (st.take (am_na N)).reverse) [] hp with
              | some (r, hp') => am_go E fu d M n (pc + 3, ls, r.toList ++ st.drop (am_na N), hp')
              | none => none) else none
          | _, _ => none
        | none => match am_one E M i pc ls st hp with
          | some C' => am_go E fu d M n C'
          | none => match am_mk M i pc ls st hp with
            | some C' => am_go E fu d M n C'
            | none => none
theorem am_go_ok (E : am_Env) (fu d : Nat) (M : am_M) : ∀ (n : Nat) (C C' : am_C), am_go E fu d M n C = some C' → ∀ (r : Option Value) (hp1 : am_H) (f2 : Nat), am_run E f2 d M C'.1 C'.2.1 C'.2.2.1 C'.2.2.2 = some (r, hp1) → ∃ f3, am_run E f3 d M C.1 C.2.1 C.2.2.1 C.2.2.2 = some (r, hp1) := by
  intro n
  induction n with
  | zero => intro C C' h r hp1 f2 h2; cases h; exact ⟨f2, h2⟩
  | succ n ih =>
    intro C C' h r hp1 f2 h2
    obtain ⟨pc, ls, st, hp⟩ := C
    unfold am_go at h
    split at h
    · cases h
    · next i hi =>
      split at h
      · cases h
      · next hr0 =>
        split at h
        · next j v hcal =>
          split at h
          · next d' N hN =>
            split at h
            · next hcnd =>
              split at h
              · next r1 hp2 hrun =>
                obtain ⟨f3, h3⟩ := ih _ _ h r hp1 f2 h2
                refine ⟨(fu + f3) + 1, ?_⟩
                show am_run E ((fu + f3) + 1) (d' + 1) M pc ls st hp = _
                unfold am_run
                simp only [hi, hr0, hcal, hN, if_pos hcnd, am_run_up E _ _ _ _ _ _ _ _ hrun f3]
                have h4 := am_run_up E _ _ _ _ _ _ _ _ h3 fu
                rw [Nat.add_comm f3 fu] at h4
                exact h4
              · cases h
            · cases h
          · cases h
        · next hcal =>
          split at h
          · next C2 hone =>
            obtain ⟨f3, h3⟩ := ih _ _ h r hp1 f2 h2
            refine ⟨f3 + 1, ?_⟩
            show am_run E (f3 + 1) d M pc ls st hp = _
            unfold am_run
            simp only [hi, hr0, hcal, hone]
            exact h3
          · next hone =>
            split at h
            · next C2 hmk =>
              obtain ⟨f3, h3⟩ := ih _ _ h r hp1 f2 h2
              refine ⟨f3 + 1, ?_⟩
              show am_run E (f3 + 1) d M pc ls st hp = _
              unfold am_run
              simp only [hi, hr0, hcal, hone, hmk]
              exact h3
            · cases h
