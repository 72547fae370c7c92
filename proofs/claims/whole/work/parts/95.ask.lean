/-! ask: the question as it is told, the program's reading of it -/
def akd (B : Int → Int) (n : Int) (s : Int × Int) : Option Int := if isW B n (lit 25) s = true then some 0 else if isW B n (lit 26) s = true then some 1 else if isW B n (lit 27) s = true then some 2 else if isW B n (lit 28) s = true then some 3 else if isW B n (lit 29) s = true then some 4 else if isW B n (lit 30) s = true then some 5 else none
def akt (k : Int) : Nat := if 2 < k then 3 else 0
def fat (B : Int → Int) (n : Int) (k : Int) (r : PRS) : Sum (Int × Int) (Int × List Int) := match r with
  | .inl e => .inl e
  | .inr p => if tkd B n p.1 = 0 then .inr (k, p.2) else .inl (1, tq B n p.1)
def sAsk (B : Int → Int) (n : Int) : Sum (Int × Int) (Int × List Int) := match akd B n (0, 0) with
  | none => .inl (1, tq B n (0, 0))
  | some k => fat B n k (sp B n true 100 (akt k) 0 0 (nx B n (0, 0)))
section ASK
variable {B : Int → Int} {n : Int} {m : xm} {s : Int × Int}
theorem akd_rng {k : Int} (h : akd B n s = some k) : 0 ≤ k ∧ k ≤ 5 ∧ tkd B n s = 1 := by
  unfold akd at h
  split at h
  · next c => cases h; exact ⟨by decide, by decide, isW_kd c⟩
  split at h
  · next c => cases h; exact ⟨by decide, by decide, isW_kd c⟩
  split at h
  · next c => cases h; exact ⟨by decide, by decide, isW_kd c⟩
  split at h
  · next c => cases h; exact ⟨by decide, by decide, isW_kd c⟩
  split at h
  · next c => cases h; exact ⟨by decide, by decide, isW_kd c⟩
  split at h
  · next c => cases h; exact ⟨by decide, by decide, isW_kd c⟩
  · cases h
theorem okT_0 (T : TB B n) : okT n (0, 0) := ⟨Int.le_refl _, T.1, Or.inl rfl⟩
/-- what a question's reading gives -/
theorem sAsk_ty {k : Int} {C : List Int} (T : TB B n) (h : sAsk B n = .inr (k, C)) : 0 ≤ k ∧ k ≤ 5 ∧ C.length ≤ 1600 ∧ tyl true C [] = some [decide (k ≤ 2)] := by
  unfold sAsk at h
  cases ek : akd B n (0, 0) with
  | none => rw [ek] at h; cases h
  | some k' =>
    rw [ek] at h
    have kr := akd_rng ek
    have okn := okT_nx (B := B) (okT_0 T)
    dsimp only at h
    cases es : sp B n true 100 (akt k') 0 0 (nx B n (0, 0)) with
    | inl e => rw [es] at h; cases h
    | inr p =>
      obtain ⟨s', C'⟩ := p
      rw [es] at h
      unfold fat at h
      dsimp only at h
      split at h
      · cases h
        have g := sp_gd 100 (akt k) okn (by decide) (by decide) (by unfold akt; split <;> exact tA (by decide) (by decide)) s' C es
        have n16 := T.2.1
        have o1 := g.1.2.1
        have o2 := okn.1
        refine ⟨kr.1, kr.2.1, by omega, ?_⟩
        by_cases c : 2 < k
        · have e : akt k = 3 := by unfold akt; rw [if_pos c]
          have := g.2.2.2 [] (by rw [e]; decide)
          rw [this, e, decide_eq_false (by omega)]
          rfl
        · have e : akt k = 0 := by unfold akt; rw [if_neg c]
          have := g.2.2.2 [] (by rw [e]; decide)
          rw [this, e, decide_eq_true (by omega)]
          rfl
      · cases h
theorem cW_begin_S (T : CT m B n) : ∃ m', cW_begin m = some (0, m') ∧ CS m' B n (0, 0) ∧ F3 m m' := by
  obtain ⟨m1, hm1⟩ : ∃ m1, m1 = st (st (st (st m 3 4 0) 3 5 (-1)) 3 1 3) 3 3 0 := ⟨_, rfl⟩
  have f1 : F3 m m1 := by rw [hm1]; exact F3_trans F3_st (F3_trans F3_st (F3_trans F3_st F3_st))
  have e4 : ld m1 3 4 = 0 := by rw [hm1, ld_st_ne (by decide), ld_st_ne (by decide), ld_st_ne (by decide), ld_st_eq]; rfl
  have e5 : ld m1 3 5 = -1 := by rw [hm1, ld_st_ne (by decide), ld_st_ne (by decide), ld_st_eq]; rfl
  have e1 : ld m1 3 1 = 3 := by rw [hm1, ld_st_ne (by decide), ld_st_eq]; rfl
  have e3 : ld m1 3 3 = 0 := by rw [hm1, ld_st_eq]; rfl
  obtain ⟨m', a1, a2, a3, a4, a5⟩ := cW_next_ok (F3_CT f1 T) e4 e1 e3 (by decide) T.2.1
  have f2 : F3 m1 m' := fun a j g => a5 a j (by omega)
  unfold cW_begin
  rw [stf_eq, stf_eq, stf_eq, stf_eq, ← hm1, a1, bnd_some]
  refine ⟨m', rfl, ⟨F3_CT (F3_trans f1 f2) T, okT_0 (CT_TB T), ?_, ?_, a4, a2, a3⟩, F3_trans f1 f2⟩
  · rw [ldq (a5 3 4 (by decide)), e4]
  · rw [ldq (a5 3 5 (by decide)), e5]
theorem takeAsked_S (S : CS m B n s) : (∀ k, akd B n s = some k → ∃ m', cQ_takeAsked m = some (k, m') ∧ CS m' B n (nx B n s) ∧ F3 m m') ∧ (akd B n s = none → cQ_takeAsked m = some (-1, m)) := by
  unfold cQ_takeAsked akd
  have h := cW_takeWord_S (j := 25) (by decide) S
  by_cases c : isW B n (lit 25) s = true
  · obtain ⟨m1, a1, a2, a3⟩ := h.1 c
    rw [if_pos c, a1, bnd_some, if_neg (by decide)]
    exact ⟨fun k z => (by cases z; exact ⟨m1, rfl, a2, a3⟩), fun z => by cases z⟩
  rw [if_neg c, h.2 (by simpa using c), bnd_some, if_pos (show w32 0 = 0 by rfl)]
  have h := cW_takeWord_S (j := 26) (by decide) S
  by_cases c : isW B n (lit 26) s = true
  · obtain ⟨m1, a1, a2, a3⟩ := h.1 c
    rw [if_pos c, a1, bnd_some, if_neg (by decide)]
    exact ⟨fun k z => (by cases z; exact ⟨m1, rfl, a2, a3⟩), fun z => by cases z⟩
  rw [if_neg c, h.2 (by simpa using c), bnd_some, if_pos (show w32 0 = 0 by rfl)]
  have h := cW_takeWord_S (j := 27) (by decide) S
  by_cases c : isW B n (lit 27) s = true
  · obtain ⟨m1, a1, a2, a3⟩ := h.1 c
    rw [if_pos c, a1, bnd_some, if_neg (by decide)]
    exact ⟨fun k z => (by cases z; exact ⟨m1, rfl, a2, a3⟩), fun z => by cases z⟩
  rw [if_neg c, h.2 (by simpa using c), bnd_some, if_pos (show w32 0 = 0 by rfl)]
  have h := cW_takeWord_S (j := 28) (by decide) S
  by_cases c : isW B n (lit 28) s = true
  · obtain ⟨m1, a1, a2, a3⟩ := h.1 c
    rw [if_pos c, a1, bnd_some, if_neg (by decide)]
    exact ⟨fun k z => (by cases z; exact ⟨m1, rfl, a2, a3⟩), fun z => by cases z⟩
  rw [if_neg c, h.2 (by simpa using c), bnd_some, if_pos (show w32 0 = 0 by rfl)]
  have h := cW_takeWord_S (j := 29) (by decide) S
  by_cases c : isW B n (lit 29) s = true
  · obtain ⟨m1, a1, a2, a3⟩ := h.1 c
    rw [if_pos c, a1, bnd_some, if_neg (by decide)]
    exact ⟨fun k z => (by cases z; exact ⟨m1, rfl, a2, a3⟩), fun z => by cases z⟩
  rw [if_neg c, h.2 (by simpa using c), bnd_some, if_pos (show w32 0 = 0 by rfl)]
  have h := cW_takeWord_S (j := 30) (by decide) S
  by_cases c : isW B n (lit 30) s = true
  · obtain ⟨m1, a1, a2, a3⟩ := h.1 c
    rw [if_pos c, a1, bnd_some, if_neg (by decide)]
    exact ⟨fun k z => (by cases z; exact ⟨m1, rfl, a2, a3⟩), fun z => by cases z⟩
  rw [if_neg c, h.2 (by simpa using c), bnd_some, if_pos (show w32 0 = 0 by rfl)]
  exact ⟨fun k z => (by cases z), fun _ => rfl⟩
/-- cells of a question's reading -/
def fA (m m' : xm) : Prop := ∀ a k, a ≠ 3 → ¬ (a = 6 ∧ k = 3) → ¬ (a = 7 ∧ k = 2) → a ≠ 8 → m' a k = m a k
theorem cQ_read_S (T : CT m B n) : (∀ k C, sAsk B n = .inr (k, C) → ∃ m', cQ_read m = some (1, m') ∧ ld m' 6 3 = k ∧ CD m' 7 C ∧ ld m' 3 4 = 0 ∧ ld m' 3 5 = -1 ∧ fA m m') ∧ (∀ k p, sAsk B n = .inl (k, p) → ∃ m', cQ_read m = some (0, m') ∧ ld m' 3 4 = k ∧ ld m' 3 5 = p ∧ fA m m') := by
  have pc : isC 7 := Or.inl rfl
  obtain ⟨m1, a1, a2, a3⟩ := cW_begin_S T
  have n16 := T.2.2.1
  obtain ⟨m2, hm2⟩ : ∃ m2, m2 = st m1 7 2 0 := ⟨_, rfl⟩
  have S2 : CS m2 B n (0, 0) := CS_cg a2 (fun a k z => by rw [hm2, st_at (by omega)])
  have D2 : CD m2 7 [] := ⟨by rw [hm2, ld_st_eq]; rfl, (fun i hi => by cases hi), by decide⟩
  have f2 : fA m m2 := fun a k g1 g2 g3 g4 => by rw [hm2, st_at g3, a3 a k g1]
  have hT := takeAsked_S S2
  have R94 : ∀ {m' : xm}, cQ_read_94 m' = if ld m' 3 4 = 0 then some (1, m') else some (0, m') := by
    intro m'
    unfold cQ_read_94 cW_faultKind
    rw [bnd_some, w32_ld]
  have R76S : ∀ {m' : xm} {s' : Int × Int}, CS m' B n s' → (tkd B n s' = 0 → cQ_read_76 m' = some (1, m')) ∧ (tkd B n s' ≠ 0 → ∃ m'', cQ_read_76 m' = some (0, m'') ∧ CF m'' 1 (tq B n s') ∧ F3 m' m'') := by
    intro m' s' S
    unfold cQ_read_76 cW_isEnd
    rw [S.2.2.2.2.1]
    constructor
    · intro z
      rw [if_pos z, bnd_some, if_neg (by decide), R94, if_pos S.2.2.1]
    · intro z
      obtain ⟨m3, b1, b2, b3⟩ := cW_failHere_S (k := 1) S (by decide) (by decide) (by decide)
      rw [if_neg z, bnd_some, if_pos (by rfl), b1, bnd_some, R94, if_neg (by rw [b2.2.1]; decide)]
      exact ⟨m3, rfl, b2, b3⟩
  have R76F : ∀ {m' : xm} {k p : Int}, CF m' k p → cQ_read_76 m' = some (0, m') := by
    intro m' k p F
    unfold cQ_read_76 cW_isEnd
    rw [F.2.2.2, if_pos rfl, bnd_some, if_neg (by decide), R94, if_neg (by rw [F.2.1]; exact F.1)]
  have hr : cQ_read m = bnd (cQ_takeAsked m2) fun r5 m6 => stf m6 6 3 r5 fun m7 => if ld m7 6 3 = (-1) then bnd (cW_failHere 1 m7) fun r12 m13 => cQ_read_76 m13 else if 2 < ld m7 6 3 then bnd (cX_rec 100 3 10 7 0 0 m7) fun r8 m9 => cQ_read_76 m9 else bnd (cX_rec 100 0 10 7 0 0 m7) fun r10 m11 => cQ_read_76 m11 := by
    unfold cQ_read cC_clear
    rw [a1, bnd_some, stf_eq, bnd_some, ← hm2]
  unfold sAsk
  cases ek : akd B n (0, 0) with
  | none =>
    have e := hT.2 ek
    have S3 : CS (st m2 6 3 (-1)) B n (0, 0) := CS_cg S2 (fun a k z => st_at (by omega))
    obtain ⟨m3, b1, b2, b3⟩ := cW_failHere_S (k := 1) S3 (by decide) (by decide) (by decide)
    rw [hr, e, bnd_some, stf_eq, ld_st_eq, show w32 (-1) = -1 from rfl, if_pos rfl, b1, bnd_some, R76F b2]
    exact ⟨fun k C z => (by cases z), fun k p z => by cases z; exact ⟨m3, rfl, b2.2.1, b2.2.2.1, fun a k g1 g2 g3 g4 => by rw [b3 a k g1, st_at g2, f2 a k g1 g2 g3 g4]⟩⟩
  | some k0 =>
    obtain ⟨m3, b1, b2, b3⟩ := hT.1 k0 ek
    have kr := akd_rng ek
    have S4 : CS (st m3 6 3 k0) B n (nx B n (0, 0)) := CS_cg b2 (fun a k z => st_at (by omega))
    have D4 : CD (st m3 6 3 k0) 7 [] := CD_cg (CD_F3 pc D2 b3) (st_at (by omega)) (fun k => st_at (by omega))
    have e6 : ld (st m3 6 3 k0) 6 3 = k0 := by rw [ld_st_eq, w32_id (by omega) (by omega)]
    have f4 : fA m (st m3 6 3 k0) := fun a k g1 g2 g3 g4 => by rw [st_at g2, b3 a k g1, f2 a k g1 g2 g3 g4]
    have key : cQ_read m = bnd (cX_rec 100 (akt k0) 10 7 0 0 (st m3 6 3 k0)) fun r8 m9 => cQ_read_76 m9 := by
      rw [hr, b1, bnd_some, stf_eq, e6, if_neg (by omega)]
      unfold akt
      split <;> rfl
    have CX := cX_S (B := B) (n := n) (c := 7) (t := 10) (q := true) pc rfl n16 100 (akt k0) (o := 0) (a := 0) S4 D4 (by rw [List.length_nil]; have := S4.2.1.1; omega) (by decide) (by decide) (by unfold akt; split <;> decide) (by unfold akt; split <;> exact tA (by decide) (by decide))
    rw [key]
    dsimp only
    cases es : sp B n true 100 (akt k0) 0 0 (nx B n (0, 0)) with
    | inl e =>
      obtain ⟨k, p⟩ := e
      obtain ⟨m5, d1, d2, d3⟩ := CX.2 k p es
      rw [d1, bnd_some, R76F d2]
      unfold fat
      exact ⟨fun k C z => (by cases z), fun k p z => by cases z; exact ⟨m5, rfl, d2.2.1, d2.2.2.1, fun a k g1 g2 g3 g4 => by rw [d3 a k g1 g3 g4, f4 a k g1 g2 g3 g4]⟩⟩
    | inr x =>
      obtain ⟨s', C⟩ := x
      obtain ⟨m5, d1, d2, d3, d4⟩ := CX.1 s' C es
      rw [List.nil_append] at d3
      rw [d1, bnd_some]
      unfold fat
      dsimp only
      by_cases z0 : tkd B n s' = 0
      · rw [(R76S d2).1 z0, if_pos z0]
        exact ⟨fun k C z => (by cases z; exact ⟨m5, rfl, by rw [ldq (d4 6 3 (by decide) (by decide) (by decide))]; exact e6, d3, d2.2.2.1, d2.2.2.2.1, fun a k g1 g2 g3 g4 => by rw [d4 a k g1 g3 g4, f4 a k g1 g2 g3 g4]⟩), fun k p z => by cases z⟩
      · obtain ⟨m6, y1, y2, y3⟩ := (R76S d2).2 z0
        rw [y1, if_neg z0]
        exact ⟨fun k C z => (by cases z), fun k p z => by cases z; exact ⟨m6, rfl, y2.2.1, y2.2.2.1, fun a k g1 g2 g3 g4 => by rw [y3 a k g1, d4 a k g1 g3 g4, f4 a k g1 g2 g3 g4]⟩⟩
end ASK
