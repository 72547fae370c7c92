/-! an instruction of part 03's machine that is neither call nor return and makes no cell: the claim's machine does it -/
theorem am_fit_ok {B : Nat} {ra : Nat → Nat} {ty : FieldType} {v : Value} (h : am_fit ty v = true) : narrow ty (am_v B ra v) = am_v B ra v ∧ fits ty (am_v B ra v) = true := by
  cases v with
  | ref k => cases ty <;> first | exact ⟨rfl, rfl⟩ | cases h
  | null => cases ty <;> first | exact ⟨rfl, rfl⟩ | cases h
  | int x =>
    cases ty with
    | int => exact ⟨rfl, rfl⟩
    | _ =>
      simp only [am_fit, Bool.and_eq_true, decide_eq_true_eq] at h
      exact h
  | long x =>
    cases ty with
    | long => exact ⟨rfl, rfl⟩
    | _ => cases h
  | float x => cases h
  | double x => cases h
  | retAddr x => cases h
theorem am_nar_ok {ty : FieldType} {x : Int32} (h : am_nar ty x = true) : narrow ty (.int x) = .int x := by
  cases ty with
  | int => rfl
  | _ => exact of_decide_eq_true h
section AMO
variable {D : va_G} {B : Nat} {ra : Nat → Nat} {cA : Nat → ClassId} {E : am_Env} {n0 n1 z1 d : Nat} {M : am_M} {p : Program} {l : Launch} {e : Env} {R : Room} {s : State} {m : MethodId} {args : Array Value} {below : List Frame} {meth : Method} {c : Code} {Q : State → Prop}

set_option maxHeartbeats 4000000 in
theorem am_o_iconst (k : Int) (F : am_Fr D B ra cA E n0 d M p R s m args meth c) {nn : Nat} {C C1 : am_C} (hdg0 : decode (am_cc M) C.1 = .ok ((Instr.iconst k), nn)) (hn : am_ln (Instr.iconst k) = 0 ∨ nn = am_ln (Instr.iconst k)) (h : am_one E M (Instr.iconst k) C.1 C.2.1 C.2.2.1 C.2.2.2 = some C1) (kk : am_AW D B ra cA n0 n1 z1 M p l e R s m args below meth c Q C1) : am_AW D B ra cA n0 n1 z1 M p l e R s m args below meth c Q C := by
  obtain ⟨pc, ls, st, hp⟩ := C
  intro H locs lsA cells slots hP hS hl hc hs hnn
  obtain ⟨hx, hb, hml, hown, hts, hK, hro, hr, hlk, hini, hB, hR1, hR2, hok, hR3, hR4⟩ := F
  obtain rfl : nn = 1 := hn.resolve_left (by simp [am_ln])
  have hdg : decode (am_cc M) pc = .ok ((Instr.iconst k), 1) := hdg0
  simp only [am_one] at h
  cases h
  refine lv_iconst hx hb hdg rfl ?_
  exact kk H locs lsA cells slots hP hS hl hc hs hnn
set_option maxHeartbeats 4000000 in
theorem am_o_bipush (k : Int) (F : am_Fr D B ra cA E n0 d M p R s m args meth c) {nn : Nat} {C C1 : am_C} (hdg0 : decode (am_cc M) C.1 = .ok ((Instr.bipush k), nn)) (hn : am_ln (Instr.bipush k) = 0 ∨ nn = am_ln (Instr.bipush k)) (h : am_one E M (Instr.bipush k) C.1 C.2.1 C.2.2.1 C.2.2.2 = some C1) (kk : am_AW D B ra cA n0 n1 z1 M p l e R s m args below meth c Q C1) : am_AW D B ra cA n0 n1 z1 M p l e R s m args below meth c Q C := by
  obtain ⟨pc, ls, st, hp⟩ := C
  intro H locs lsA cells slots hP hS hl hc hs hnn
  obtain ⟨hx, hb, hml, hown, hts, hK, hro, hr, hlk, hini, hB, hR1, hR2, hok, hR3, hR4⟩ := F
  obtain rfl : nn = 2 := hn.resolve_left (by simp [am_ln])
  have hdg : decode (am_cc M) pc = .ok ((Instr.bipush k), 2) := hdg0
  simp only [am_one] at h
  cases h
  refine lv_bipush hx hb hdg rfl ?_
  exact kk H locs lsA cells slots hP hS hl hc hs hnn
set_option maxHeartbeats 4000000 in
theorem am_o_sipush (k : Int) (F : am_Fr D B ra cA E n0 d M p R s m args meth c) {nn : Nat} {C C1 : am_C} (hdg0 : decode (am_cc M) C.1 = .ok ((Instr.sipush k), nn)) (hn : am_ln (Instr.sipush k) = 0 ∨ nn = am_ln (Instr.sipush k)) (h : am_one E M (Instr.sipush k) C.1 C.2.1 C.2.2.1 C.2.2.2 = some C1) (kk : am_AW D B ra cA n0 n1 z1 M p l e R s m args below meth c Q C1) : am_AW D B ra cA n0 n1 z1 M p l e R s m args below meth c Q C := by
  obtain ⟨pc, ls, st, hp⟩ := C
  intro H locs lsA cells slots hP hS hl hc hs hnn
  obtain ⟨hx, hb, hml, hown, hts, hK, hro, hr, hlk, hini, hB, hR1, hR2, hok, hR3, hR4⟩ := F
  obtain rfl : nn = 3 := hn.resolve_left (by simp [am_ln])
  have hdg : decode (am_cc M) pc = .ok ((Instr.sipush k), 3) := hdg0
  simp only [am_one] at h
  cases h
  refine lv_sipush hx hb hdg rfl ?_
  exact kk H locs lsA cells slots hP hS hl hc hs hnn
set_option maxHeartbeats 4000000 in
theorem am_o_lconst (k : Fin 2) (F : am_Fr D B ra cA E n0 d M p R s m args meth c) {nn : Nat} {C C1 : am_C} (hdg0 : decode (am_cc M) C.1 = .ok ((Instr.lconst k), nn)) (hn : am_ln (Instr.lconst k) = 0 ∨ nn = am_ln (Instr.lconst k)) (h : am_one E M (Instr.lconst k) C.1 C.2.1 C.2.2.1 C.2.2.2 = some C1) (kk : am_AW D B ra cA n0 n1 z1 M p l e R s m args below meth c Q C1) : am_AW D B ra cA n0 n1 z1 M p l e R s m args below meth c Q C := by
  obtain ⟨pc, ls, st, hp⟩ := C
  intro H locs lsA cells slots hP hS hl hc hs hnn
  obtain ⟨hx, hb, hml, hown, hts, hK, hro, hr, hlk, hini, hB, hR1, hR2, hok, hR3, hR4⟩ := F
  obtain rfl : nn = 1 := hn.resolve_left (by simp [am_ln])
  have hdg : decode (am_cc M) pc = .ok ((Instr.lconst k), 1) := hdg0
  simp only [am_one] at h
  cases h
  refine lv_lconst hx hb hdg rfl ?_
  exact kk H locs lsA cells slots hP hS hl hc hs hnn
set_option maxHeartbeats 4000000 in
theorem am_o_iload_n (k : Fin 4) (F : am_Fr D B ra cA E n0 d M p R s m args meth c) {nn : Nat} {C C1 : am_C} (hdg0 : decode (am_cc M) C.1 = .ok ((Instr.iload_n k), nn)) (hn : am_ln (Instr.iload_n k) = 0 ∨ nn = am_ln (Instr.iload_n k)) (h : am_one E M (Instr.iload_n k) C.1 C.2.1 C.2.2.1 C.2.2.2 = some C1) (kk : am_AW D B ra cA n0 n1 z1 M p l e R s m args below meth c Q C1) : am_AW D B ra cA n0 n1 z1 M p l e R s m args below meth c Q C := by
  obtain ⟨pc, ls, st, hp⟩ := C
  intro H locs lsA cells slots hP hS hl hc hs hnn
  obtain ⟨hx, hb, hml, hown, hts, hK, hro, hr, hlk, hini, hB, hR1, hR2, hok, hR3, hR4⟩ := F
  obtain rfl : nn = 1 := hn.resolve_left (by simp [am_ln])
  have hdg : decode (am_cc M) pc = .ok ((Instr.iload_n k), 1) := hdg0
  simp only [am_one] at h
  split at h
  · next x he =>
    cases h
    refine lv_iload_n hx hb hdg rfl (am_ld_at hl he) ?_
    exact kk H locs lsA cells slots hP hS hl hc hs hnn
  · cases h
set_option maxHeartbeats 4000000 in
theorem am_o_istore_n (k : Fin 4) (F : am_Fr D B ra cA E n0 d M p R s m args meth c) {nn : Nat} {C C1 : am_C} (hdg0 : decode (am_cc M) C.1 = .ok ((Instr.istore_n k), nn)) (hn : am_ln (Instr.istore_n k) = 0 ∨ nn = am_ln (Instr.istore_n k)) (h : am_one E M (Instr.istore_n k) C.1 C.2.1 C.2.2.1 C.2.2.2 = some C1) (kk : am_AW D B ra cA n0 n1 z1 M p l e R s m args below meth c Q C1) : am_AW D B ra cA n0 n1 z1 M p l e R s m args below meth c Q C := by
  obtain ⟨pc, ls, st, hp⟩ := C
  intro H locs lsA cells slots hP hS hl hc hs hnn
  obtain ⟨hx, hb, hml, hown, hts, hK, hro, hr, hlk, hini, hB, hR1, hR2, hok, hR3, hR4⟩ := F
  obtain rfl : nn = 1 := hn.resolve_left (by simp [am_ln])
  have hdg : decode (am_cc M) pc = .ok ((Instr.istore_n k), 1) := hdg0
  simp only [am_one] at h
  split at h
  · next x r =>
    split at h
    · next hk =>
      cases h
      refine lv_istore_n (lv' := _) hx hb hdg rfl hl hk (am_q_s1 B ra _ (.int x) ls) (fun ls' hl' => ?_)
      exact kk H locs ls' cells slots hP hS hl' hc hs hnn
    · cases h
  · cases h
set_option maxHeartbeats 4000000 in
theorem am_o_iload (k : Nat) (F : am_Fr D B ra cA E n0 d M p R s m args meth c) {nn : Nat} {C C1 : am_C} (hdg0 : decode (am_cc M) C.1 = .ok ((Instr.iload k), nn)) (hn : am_ln (Instr.iload k) = 0 ∨ nn = am_ln (Instr.iload k)) (h : am_one E M (Instr.iload k) C.1 C.2.1 C.2.2.1 C.2.2.2 = some C1) (kk : am_AW D B ra cA n0 n1 z1 M p l e R s m args below meth c Q C1) : am_AW D B ra cA n0 n1 z1 M p l e R s m args below meth c Q C := by
  obtain ⟨pc, ls, st, hp⟩ := C
  intro H locs lsA cells slots hP hS hl hc hs hnn
  obtain ⟨hx, hb, hml, hown, hts, hK, hro, hr, hlk, hini, hB, hR1, hR2, hok, hR3, hR4⟩ := F
  obtain rfl : nn = 2 := hn.resolve_left (by simp [am_ln])
  have hdg : decode (am_cc M) pc = .ok ((Instr.iload k), 2) := hdg0
  simp only [am_one] at h
  split at h
  · next x he =>
    cases h
    refine lv_iload hx hb hdg (am_ld_at hl he) ?_
    exact kk H locs lsA cells slots hP hS hl hc hs hnn
  · cases h
set_option maxHeartbeats 4000000 in
theorem am_o_istore (k : Nat) (F : am_Fr D B ra cA E n0 d M p R s m args meth c) {nn : Nat} {C C1 : am_C} (hdg0 : decode (am_cc M) C.1 = .ok ((Instr.istore k), nn)) (hn : am_ln (Instr.istore k) = 0 ∨ nn = am_ln (Instr.istore k)) (h : am_one E M (Instr.istore k) C.1 C.2.1 C.2.2.1 C.2.2.2 = some C1) (kk : am_AW D B ra cA n0 n1 z1 M p l e R s m args below meth c Q C1) : am_AW D B ra cA n0 n1 z1 M p l e R s m args below meth c Q C := by
  obtain ⟨pc, ls, st, hp⟩ := C
  intro H locs lsA cells slots hP hS hl hc hs hnn
  obtain ⟨hx, hb, hml, hown, hts, hK, hro, hr, hlk, hini, hB, hR1, hR2, hok, hR3, hR4⟩ := F
  obtain rfl : nn = 2 := hn.resolve_left (by simp [am_ln])
  have hdg : decode (am_cc M) pc = .ok ((Instr.istore k), 2) := hdg0
  simp only [am_one] at h
  split at h
  · next x r =>
    split at h
    · next hk =>
      cases h
      refine lv_istore (lv' := _) hx hb hdg hl hk (am_q_s1 B ra _ (.int x) ls) (fun ls' hl' => ?_)
      exact kk H locs ls' cells slots hP hS hl' hc hs hnn
    · cases h
  · cases h
set_option maxHeartbeats 4000000 in
theorem am_o_lload_n (k : Fin 4) (F : am_Fr D B ra cA E n0 d M p R s m args meth c) {nn : Nat} {C C1 : am_C} (hdg0 : decode (am_cc M) C.1 = .ok ((Instr.lload_n k), nn)) (hn : am_ln (Instr.lload_n k) = 0 ∨ nn = am_ln (Instr.lload_n k)) (h : am_one E M (Instr.lload_n k) C.1 C.2.1 C.2.2.1 C.2.2.2 = some C1) (kk : am_AW D B ra cA n0 n1 z1 M p l e R s m args below meth c Q C1) : am_AW D B ra cA n0 n1 z1 M p l e R s m args below meth c Q C := by
  obtain ⟨pc, ls, st, hp⟩ := C
  intro H locs lsA cells slots hP hS hl hc hs hnn
  obtain ⟨hx, hb, hml, hown, hts, hK, hro, hr, hlk, hini, hB, hR1, hR2, hok, hR3, hR4⟩ := F
  obtain rfl : nn = 1 := hn.resolve_left (by simp [am_ln])
  have hdg : decode (am_cc M) pc = .ok ((Instr.lload_n k), 1) := hdg0
  simp only [am_one] at h
  split at h
  · next x he =>
    cases h
    refine lv_lload_n hx hb hdg rfl (am_ld_at hl he) ?_
    exact kk H locs lsA cells slots hP hS hl hc hs hnn
  · cases h
set_option maxHeartbeats 4000000 in
theorem am_o_lstore_n (k : Fin 4) (F : am_Fr D B ra cA E n0 d M p R s m args meth c) {nn : Nat} {C C1 : am_C} (hdg0 : decode (am_cc M) C.1 = .ok ((Instr.lstore_n k), nn)) (hn : am_ln (Instr.lstore_n k) = 0 ∨ nn = am_ln (Instr.lstore_n k)) (h : am_one E M (Instr.lstore_n k) C.1 C.2.1 C.2.2.1 C.2.2.2 = some C1) (kk : am_AW D B ra cA n0 n1 z1 M p l e R s m args below meth c Q C1) : am_AW D B ra cA n0 n1 z1 M p l e R s m args below meth c Q C := by
  obtain ⟨pc, ls, st, hp⟩ := C
  intro H locs lsA cells slots hP hS hl hc hs hnn
  obtain ⟨hx, hb, hml, hown, hts, hK, hro, hr, hlk, hini, hB, hR1, hR2, hok, hR3, hR4⟩ := F
  obtain rfl : nn = 1 := hn.resolve_left (by simp [am_ln])
  have hdg : decode (am_cc M) pc = .ok ((Instr.lstore_n k), 1) := hdg0
  simp only [am_one] at h
  split at h
  · next x r =>
    split at h
    · next hk =>
      cases h
      refine lv_lstore_n (lv' := _) hx hb hdg rfl hl hk (am_q_s2 B ra _ (.long x) ls) (fun ls' hl' => ?_)
      exact kk H locs ls' cells slots hP hS hl' hc hs hnn
    · cases h
  · cases h
set_option maxHeartbeats 4000000 in
theorem am_o_lload (k : Nat) (F : am_Fr D B ra cA E n0 d M p R s m args meth c) {nn : Nat} {C C1 : am_C} (hdg0 : decode (am_cc M) C.1 = .ok ((Instr.lload k), nn)) (hn : am_ln (Instr.lload k) = 0 ∨ nn = am_ln (Instr.lload k)) (h : am_one E M (Instr.lload k) C.1 C.2.1 C.2.2.1 C.2.2.2 = some C1) (kk : am_AW D B ra cA n0 n1 z1 M p l e R s m args below meth c Q C1) : am_AW D B ra cA n0 n1 z1 M p l e R s m args below meth c Q C := by
  obtain ⟨pc, ls, st, hp⟩ := C
  intro H locs lsA cells slots hP hS hl hc hs hnn
  obtain ⟨hx, hb, hml, hown, hts, hK, hro, hr, hlk, hini, hB, hR1, hR2, hok, hR3, hR4⟩ := F
  obtain rfl : nn = 2 := hn.resolve_left (by simp [am_ln])
  have hdg : decode (am_cc M) pc = .ok ((Instr.lload k), 2) := hdg0
  simp only [am_one] at h
  split at h
  · next x he =>
    cases h
    refine lv_lload hx hb hdg (am_ld_at hl he) ?_
    exact kk H locs lsA cells slots hP hS hl hc hs hnn
  · cases h
set_option maxHeartbeats 4000000 in
theorem am_o_lstore (k : Nat) (F : am_Fr D B ra cA E n0 d M p R s m args meth c) {nn : Nat} {C C1 : am_C} (hdg0 : decode (am_cc M) C.1 = .ok ((Instr.lstore k), nn)) (hn : am_ln (Instr.lstore k) = 0 ∨ nn = am_ln (Instr.lstore k)) (h : am_one E M (Instr.lstore k) C.1 C.2.1 C.2.2.1 C.2.2.2 = some C1) (kk : am_AW D B ra cA n0 n1 z1 M p l e R s m args below meth c Q C1) : am_AW D B ra cA n0 n1 z1 M p l e R s m args below meth c Q C := by
  obtain ⟨pc, ls, st, hp⟩ := C
  intro H locs lsA cells slots hP hS hl hc hs hnn
  obtain ⟨hx, hb, hml, hown, hts, hK, hro, hr, hlk, hini, hB, hR1, hR2, hok, hR3, hR4⟩ := F
  obtain rfl : nn = 2 := hn.resolve_left (by simp [am_ln])
  have hdg : decode (am_cc M) pc = .ok ((Instr.lstore k), 2) := hdg0
  simp only [am_one] at h
  split at h
  · next x r =>
    split at h
    · next hk =>
      cases h
      refine lv_lstore (lv' := _) hx hb hdg hl hk (am_q_s2 B ra _ (.long x) ls) (fun ls' hl' => ?_)
      exact kk H locs ls' cells slots hP hS hl' hc hs hnn
    · cases h
  · cases h
set_option maxHeartbeats 4000000 in
theorem am_o_aload_n (k : Fin 4) (F : am_Fr D B ra cA E n0 d M p R s m args meth c) {nn : Nat} {C C1 : am_C} (hdg0 : decode (am_cc M) C.1 = .ok ((Instr.aload_n k), nn)) (hn : am_ln (Instr.aload_n k) = 0 ∨ nn = am_ln (Instr.aload_n k)) (h : am_one E M (Instr.aload_n k) C.1 C.2.1 C.2.2.1 C.2.2.2 = some C1) (kk : am_AW D B ra cA n0 n1 z1 M p l e R s m args below meth c Q C1) : am_AW D B ra cA n0 n1 z1 M p l e R s m args below meth c Q C := by
  obtain ⟨pc, ls, st, hp⟩ := C
  intro H locs lsA cells slots hP hS hl hc hs hnn
  obtain ⟨hx, hb, hml, hown, hts, hK, hro, hr, hlk, hini, hB, hR1, hR2, hok, hR3, hR4⟩ := F
  obtain rfl : nn = 1 := hn.resolve_left (by simp [am_ln])
  have hdg : decode (am_cc M) pc = .ok ((Instr.aload_n k), 1) := hdg0
  simp only [am_one] at h
  split at h
  · next x he =>
    cases h
    refine lv_aload_n hx hb hdg rfl (am_ld_at hl he) ?_
    exact kk H locs lsA cells slots hP hS hl hc hs hnn
  · cases h
set_option maxHeartbeats 4000000 in
theorem am_o_astore_n (k : Fin 4) (F : am_Fr D B ra cA E n0 d M p R s m args meth c) {nn : Nat} {C C1 : am_C} (hdg0 : decode (am_cc M) C.1 = .ok ((Instr.astore_n k), nn)) (hn : am_ln (Instr.astore_n k) = 0 ∨ nn = am_ln (Instr.astore_n k)) (h : am_one E M (Instr.astore_n k) C.1 C.2.1 C.2.2.1 C.2.2.2 = some C1) (kk : am_AW D B ra cA n0 n1 z1 M p l e R s m args below meth c Q C1) : am_AW D B ra cA n0 n1 z1 M p l e R s m args below meth c Q C := by
  obtain ⟨pc, ls, st, hp⟩ := C
  intro H locs lsA cells slots hP hS hl hc hs hnn
  obtain ⟨hx, hb, hml, hown, hts, hK, hro, hr, hlk, hini, hB, hR1, hR2, hok, hR3, hR4⟩ := F
  obtain rfl : nn = 1 := hn.resolve_left (by simp [am_ln])
  have hdg : decode (am_cc M) pc = .ok ((Instr.astore_n k), 1) := hdg0
  simp only [am_one] at h
  split at h
  · next x r =>
    split at h
    · next hk =>
      cases h
      refine lv_astore_n (lv' := _) hx hb hdg rfl hl hk (am_q_s1 B ra _ (.ref x) ls) (fun ls' hl' => ?_)
      exact kk H locs ls' cells slots hP hS hl' hc hs hnn
    · cases h
  · cases h
set_option maxHeartbeats 4000000 in
theorem am_o_aload (k : Nat) (F : am_Fr D B ra cA E n0 d M p R s m args meth c) {nn : Nat} {C C1 : am_C} (hdg0 : decode (am_cc M) C.1 = .ok ((Instr.aload k), nn)) (hn : am_ln (Instr.aload k) = 0 ∨ nn = am_ln (Instr.aload k)) (h : am_one E M (Instr.aload k) C.1 C.2.1 C.2.2.1 C.2.2.2 = some C1) (kk : am_AW D B ra cA n0 n1 z1 M p l e R s m args below meth c Q C1) : am_AW D B ra cA n0 n1 z1 M p l e R s m args below meth c Q C := by
  obtain ⟨pc, ls, st, hp⟩ := C
  intro H locs lsA cells slots hP hS hl hc hs hnn
  obtain ⟨hx, hb, hml, hown, hts, hK, hro, hr, hlk, hini, hB, hR1, hR2, hok, hR3, hR4⟩ := F
  obtain rfl : nn = 2 := hn.resolve_left (by simp [am_ln])
  have hdg : decode (am_cc M) pc = .ok ((Instr.aload k), 2) := hdg0
  simp only [am_one] at h
  split at h
  · next x he =>
    cases h
    refine lv_aload hx hb hdg (am_ld_at hl he) ?_
    exact kk H locs lsA cells slots hP hS hl hc hs hnn
  · cases h
set_option maxHeartbeats 4000000 in
theorem am_o_astore (k : Nat) (F : am_Fr D B ra cA E n0 d M p R s m args meth c) {nn : Nat} {C C1 : am_C} (hdg0 : decode (am_cc M) C.1 = .ok ((Instr.astore k), nn)) (hn : am_ln (Instr.astore k) = 0 ∨ nn = am_ln (Instr.astore k)) (h : am_one E M (Instr.astore k) C.1 C.2.1 C.2.2.1 C.2.2.2 = some C1) (kk : am_AW D B ra cA n0 n1 z1 M p l e R s m args below meth c Q C1) : am_AW D B ra cA n0 n1 z1 M p l e R s m args below meth c Q C := by
  obtain ⟨pc, ls, st, hp⟩ := C
  intro H locs lsA cells slots hP hS hl hc hs hnn
  obtain ⟨hx, hb, hml, hown, hts, hK, hro, hr, hlk, hini, hB, hR1, hR2, hok, hR3, hR4⟩ := F
  obtain rfl : nn = 2 := hn.resolve_left (by simp [am_ln])
  have hdg : decode (am_cc M) pc = .ok ((Instr.astore k), 2) := hdg0
  simp only [am_one] at h
  split at h
  · next x r =>
    split at h
    · next hk =>
      cases h
      refine lv_astore (lv' := _) hx hb hdg hl hk (am_q_s1 B ra _ (.ref x) ls) (fun ls' hl' => ?_)
      exact kk H locs ls' cells slots hP hS hl' hc hs hnn
    · cases h
  · cases h
set_option maxHeartbeats 4000000 in
theorem am_o_iinc (k : Nat) (n : Int) (F : am_Fr D B ra cA E n0 d M p R s m args meth c) {nn : Nat} {C C1 : am_C} (hdg0 : decode (am_cc M) C.1 = .ok ((Instr.iinc k n), nn)) (hn : am_ln (Instr.iinc k n) = 0 ∨ nn = am_ln (Instr.iinc k n)) (h : am_one E M (Instr.iinc k n) C.1 C.2.1 C.2.2.1 C.2.2.2 = some C1) (kk : am_AW D B ra cA n0 n1 z1 M p l e R s m args below meth c Q C1) : am_AW D B ra cA n0 n1 z1 M p l e R s m args below meth c Q C := by
  obtain ⟨pc, ls, st, hp⟩ := C
  intro H locs lsA cells slots hP hS hl hc hs hnn
  obtain ⟨hx, hb, hml, hown, hts, hK, hro, hr, hlk, hini, hB, hR1, hR2, hok, hR3, hR4⟩ := F
  obtain rfl : nn = 3 := hn.resolve_left (by simp [am_ln])
  have hdg : decode (am_cc M) pc = .ok ((Instr.iinc k n), 3) := hdg0
  simp only [am_one] at h
  split at h
  · next x he =>
    split at h
    · next hk =>
      cases h
      obtain ⟨j, hj⟩ := am_ld_ix (B := B) (ra := ra) he
      refine lv_iinc (v := x + Int32.ofInt n) hx hb hdg hl hj rfl hk (am_q_s1 B ra k (.int (x + Int32.ofInt n)) ls) (fun ls' hl' => ?_)
      exact kk H locs ls' cells slots hP hS hl' hc hs hnn
    · cases h
  · cases h
set_option maxHeartbeats 4000000 in
theorem am_o_iadd  (F : am_Fr D B ra cA E n0 d M p R s m args meth c) {nn : Nat} {C C1 : am_C} (hdg0 : decode (am_cc M) C.1 = .ok ((Instr.iadd), nn)) (hn : am_ln (Instr.iadd) = 0 ∨ nn = am_ln (Instr.iadd)) (h : am_one E M (Instr.iadd) C.1 C.2.1 C.2.2.1 C.2.2.2 = some C1) (kk : am_AW D B ra cA n0 n1 z1 M p l e R s m args below meth c Q C1) : am_AW D B ra cA n0 n1 z1 M p l e R s m args below meth c Q C := by
  obtain ⟨pc, ls, st, hp⟩ := C
  intro H locs lsA cells slots hP hS hl hc hs hnn
  obtain ⟨hx, hb, hml, hown, hts, hK, hro, hr, hlk, hini, hB, hR1, hR2, hok, hR3, hR4⟩ := F
  obtain rfl : nn = 1 := hn.resolve_left (by simp [am_ln])
  have hdg : decode (am_cc M) pc = .ok ((Instr.iadd), 1) := hdg0
  simp only [am_one] at h
  split at h
  · next y x r =>
    simp only [am_i2] at h
    cases h
    refine lv_iadd hx hb hdg ?_
    exact kk H locs lsA cells slots hP hS hl hc hs hnn
  · cases h
set_option maxHeartbeats 4000000 in
theorem am_o_isub  (F : am_Fr D B ra cA E n0 d M p R s m args meth c) {nn : Nat} {C C1 : am_C} (hdg0 : decode (am_cc M) C.1 = .ok ((Instr.isub), nn)) (hn : am_ln (Instr.isub) = 0 ∨ nn = am_ln (Instr.isub)) (h : am_one E M (Instr.isub) C.1 C.2.1 C.2.2.1 C.2.2.2 = some C1) (kk : am_AW D B ra cA n0 n1 z1 M p l e R s m args below meth c Q C1) : am_AW D B ra cA n0 n1 z1 M p l e R s m args below meth c Q C := by
  obtain ⟨pc, ls, st, hp⟩ := C
  intro H locs lsA cells slots hP hS hl hc hs hnn
  obtain ⟨hx, hb, hml, hown, hts, hK, hro, hr, hlk, hini, hB, hR1, hR2, hok, hR3, hR4⟩ := F
  obtain rfl : nn = 1 := hn.resolve_left (by simp [am_ln])
  have hdg : decode (am_cc M) pc = .ok ((Instr.isub), 1) := hdg0
  simp only [am_one] at h
  split at h
  · next y x r =>
    simp only [am_i2] at h
    cases h
    refine lv_isub hx hb hdg ?_
    exact kk H locs lsA cells slots hP hS hl hc hs hnn
  · cases h
set_option maxHeartbeats 4000000 in
theorem am_o_imul  (F : am_Fr D B ra cA E n0 d M p R s m args meth c) {nn : Nat} {C C1 : am_C} (hdg0 : decode (am_cc M) C.1 = .ok ((Instr.imul), nn)) (hn : am_ln (Instr.imul) = 0 ∨ nn = am_ln (Instr.imul)) (h : am_one E M (Instr.imul) C.1 C.2.1 C.2.2.1 C.2.2.2 = some C1) (kk : am_AW D B ra cA n0 n1 z1 M p l e R s m args below meth c Q C1) : am_AW D B ra cA n0 n1 z1 M p l e R s m args below meth c Q C := by
  obtain ⟨pc, ls, st, hp⟩ := C
  intro H locs lsA cells slots hP hS hl hc hs hnn
  obtain ⟨hx, hb, hml, hown, hts, hK, hro, hr, hlk, hini, hB, hR1, hR2, hok, hR3, hR4⟩ := F
  obtain rfl : nn = 1 := hn.resolve_left (by simp [am_ln])
  have hdg : decode (am_cc M) pc = .ok ((Instr.imul), 1) := hdg0
  simp only [am_one] at h
  split at h
  · next y x r =>
    simp only [am_i2] at h
    cases h
    refine lv_imul hx hb hdg ?_
    exact kk H locs lsA cells slots hP hS hl hc hs hnn
  · cases h
set_option maxHeartbeats 4000000 in
theorem am_o_iand  (F : am_Fr D B ra cA E n0 d M p R s m args meth c) {nn : Nat} {C C1 : am_C} (hdg0 : decode (am_cc M) C.1 = .ok ((Instr.iand), nn)) (hn : am_ln (Instr.iand) = 0 ∨ nn = am_ln (Instr.iand)) (h : am_one E M (Instr.iand) C.1 C.2.1 C.2.2.1 C.2.2.2 = some C1) (kk : am_AW D B ra cA n0 n1 z1 M p l e R s m args below meth c Q C1) : am_AW D B ra cA n0 n1 z1 M p l e R s m args below meth c Q C := by
  obtain ⟨pc, ls, st, hp⟩ := C
  intro H locs lsA cells slots hP hS hl hc hs hnn
  obtain ⟨hx, hb, hml, hown, hts, hK, hro, hr, hlk, hini, hB, hR1, hR2, hok, hR3, hR4⟩ := F
  obtain rfl : nn = 1 := hn.resolve_left (by simp [am_ln])
  have hdg : decode (am_cc M) pc = .ok ((Instr.iand), 1) := hdg0
  simp only [am_one] at h
  split at h
  · next y x r =>
    simp only [am_i2] at h
    cases h
    refine lv_iand hx hb hdg ?_
    exact kk H locs lsA cells slots hP hS hl hc hs hnn
  · cases h
set_option maxHeartbeats 4000000 in
theorem am_o_ior  (F : am_Fr D B ra cA E n0 d M p R s m args meth c) {nn : Nat} {C C1 : am_C} (hdg0 : decode (am_cc M) C.1 = .ok ((Instr.ior), nn)) (hn : am_ln (Instr.ior) = 0 ∨ nn = am_ln (Instr.ior)) (h : am_one E M (Instr.ior) C.1 C.2.1 C.2.2.1 C.2.2.2 = some C1) (kk : am_AW D B ra cA n0 n1 z1 M p l e R s m args below meth c Q C1) : am_AW D B ra cA n0 n1 z1 M p l e R s m args below meth c Q C := by
  obtain ⟨pc, ls, st, hp⟩ := C
  intro H locs lsA cells slots hP hS hl hc hs hnn
  obtain ⟨hx, hb, hml, hown, hts, hK, hro, hr, hlk, hini, hB, hR1, hR2, hok, hR3, hR4⟩ := F
  obtain rfl : nn = 1 := hn.resolve_left (by simp [am_ln])
  have hdg : decode (am_cc M) pc = .ok ((Instr.ior), 1) := hdg0
  simp only [am_one] at h
  split at h
  · next y x r =>
    simp only [am_i2] at h
    cases h
    refine lv_ior hx hb hdg ?_
    exact kk H locs lsA cells slots hP hS hl hc hs hnn
  · cases h
set_option maxHeartbeats 4000000 in
theorem am_o_ixor  (F : am_Fr D B ra cA E n0 d M p R s m args meth c) {nn : Nat} {C C1 : am_C} (hdg0 : decode (am_cc M) C.1 = .ok ((Instr.ixor), nn)) (hn : am_ln (Instr.ixor) = 0 ∨ nn = am_ln (Instr.ixor)) (h : am_one E M (Instr.ixor) C.1 C.2.1 C.2.2.1 C.2.2.2 = some C1) (kk : am_AW D B ra cA n0 n1 z1 M p l e R s m args below meth c Q C1) : am_AW D B ra cA n0 n1 z1 M p l e R s m args below meth c Q C := by
  obtain ⟨pc, ls, st, hp⟩ := C
  intro H locs lsA cells slots hP hS hl hc hs hnn
  obtain ⟨hx, hb, hml, hown, hts, hK, hro, hr, hlk, hini, hB, hR1, hR2, hok, hR3, hR4⟩ := F
  obtain rfl : nn = 1 := hn.resolve_left (by simp [am_ln])
  have hdg : decode (am_cc M) pc = .ok ((Instr.ixor), 1) := hdg0
  simp only [am_one] at h
  split at h
  · next y x r =>
    simp only [am_i2] at h
    cases h
    refine lv_ixor hx hb hdg ?_
    exact kk H locs lsA cells slots hP hS hl hc hs hnn
  · cases h
set_option maxHeartbeats 4000000 in
theorem am_o_ishl  (F : am_Fr D B ra cA E n0 d M p R s m args meth c) {nn : Nat} {C C1 : am_C} (hdg0 : decode (am_cc M) C.1 = .ok ((Instr.ishl), nn)) (hn : am_ln (Instr.ishl) = 0 ∨ nn = am_ln (Instr.ishl)) (h : am_one E M (Instr.ishl) C.1 C.2.1 C.2.2.1 C.2.2.2 = some C1) (kk : am_AW D B ra cA n0 n1 z1 M p l e R s m args below meth c Q C1) : am_AW D B ra cA n0 n1 z1 M p l e R s m args below meth c Q C := by
  obtain ⟨pc, ls, st, hp⟩ := C
  intro H locs lsA cells slots hP hS hl hc hs hnn
  obtain ⟨hx, hb, hml, hown, hts, hK, hro, hr, hlk, hini, hB, hR1, hR2, hok, hR3, hR4⟩ := F
  obtain rfl : nn = 1 := hn.resolve_left (by simp [am_ln])
  have hdg : decode (am_cc M) pc = .ok ((Instr.ishl), 1) := hdg0
  simp only [am_one] at h
  split at h
  · next y x r =>
    simp only [am_i2] at h
    cases h
    refine lv_ishl hx hb hdg ?_
    exact kk H locs lsA cells slots hP hS hl hc hs hnn
  · cases h
set_option maxHeartbeats 4000000 in
theorem am_o_ishr  (F : am_Fr D B ra cA E n0 d M p R s m args meth c) {nn : Nat} {C C1 : am_C} (hdg0 : decode (am_cc M) C.1 = .ok ((Instr.ishr), nn)) (hn : am_ln (Instr.ishr) = 0 ∨ nn = am_ln (Instr.ishr)) (h : am_one E M (Instr.ishr) C.1 C.2.1 C.2.2.1 C.2.2.2 = some C1) (kk : am_AW D B ra cA n0 n1 z1 M p l e R s m args below meth c Q C1) : am_AW D B ra cA n0 n1 z1 M p l e R s m args below meth c Q C := by
  obtain ⟨pc, ls, st, hp⟩ := C
  intro H locs lsA cells slots hP hS hl hc hs hnn
  obtain ⟨hx, hb, hml, hown, hts, hK, hro, hr, hlk, hini, hB, hR1, hR2, hok, hR3, hR4⟩ := F
  obtain rfl : nn = 1 := hn.resolve_left (by simp [am_ln])
  have hdg : decode (am_cc M) pc = .ok ((Instr.ishr), 1) := hdg0
  simp only [am_one] at h
  split at h
  · next y x r =>
    simp only [am_i2] at h
    cases h
    refine lv_ishr hx hb hdg ?_
    exact kk H locs lsA cells slots hP hS hl hc hs hnn
  · cases h
set_option maxHeartbeats 4000000 in
theorem am_o_iushr  (F : am_Fr D B ra cA E n0 d M p R s m args meth c) {nn : Nat} {C C1 : am_C} (hdg0 : decode (am_cc M) C.1 = .ok ((Instr.iushr), nn)) (hn : am_ln (Instr.iushr) = 0 ∨ nn = am_ln (Instr.iushr)) (h : am_one E M (Instr.iushr) C.1 C.2.1 C.2.2.1 C.2.2.2 = some C1) (kk : am_AW D B ra cA n0 n1 z1 M p l e R s m args below meth c Q C1) : am_AW D B ra cA n0 n1 z1 M p l e R s m args below meth c Q C := by
  obtain ⟨pc, ls, st, hp⟩ := C
  intro H locs lsA cells slots hP hS hl hc hs hnn
  obtain ⟨hx, hb, hml, hown, hts, hK, hro, hr, hlk, hini, hB, hR1, hR2, hok, hR3, hR4⟩ := F
  obtain rfl : nn = 1 := hn.resolve_left (by simp [am_ln])
  have hdg : decode (am_cc M) pc = .ok ((Instr.iushr), 1) := hdg0
  simp only [am_one] at h
  split at h
  · next y x r =>
    simp only [am_i2] at h
    cases h
    refine lv_iushr hx hb hdg rfl ?_
    exact kk H locs lsA cells slots hP hS hl hc hs hnn
  · cases h
set_option maxHeartbeats 4000000 in
theorem am_o_idiv  (F : am_Fr D B ra cA E n0 d M p R s m args meth c) {nn : Nat} {C C1 : am_C} (hdg0 : decode (am_cc M) C.1 = .ok ((Instr.idiv), nn)) (hn : am_ln (Instr.idiv) = 0 ∨ nn = am_ln (Instr.idiv)) (h : am_one E M (Instr.idiv) C.1 C.2.1 C.2.2.1 C.2.2.2 = some C1) (kk : am_AW D B ra cA n0 n1 z1 M p l e R s m args below meth c Q C1) : am_AW D B ra cA n0 n1 z1 M p l e R s m args below meth c Q C := by
  obtain ⟨pc, ls, st, hp⟩ := C
  intro H locs lsA cells slots hP hS hl hc hs hnn
  obtain ⟨hx, hb, hml, hown, hts, hK, hro, hr, hlk, hini, hB, hR1, hR2, hok, hR3, hR4⟩ := F
  obtain rfl : nn = 1 := hn.resolve_left (by simp [am_ln])
  have hdg : decode (am_cc M) pc = .ok ((Instr.idiv), 1) := hdg0
  simp only [am_one] at h
  split at h
  · next y x r =>
    simp only [am_i2] at h
    by_cases hy : y = 0
    · rw [if_pos hy] at h
      cases h
    · rw [if_neg hy] at h
      cases h
      refine lv_idiv hx hb hdg hy ?_
      exact kk H locs lsA cells slots hP hS hl hc hs hnn
  · cases h
set_option maxHeartbeats 4000000 in
theorem am_o_irem  (F : am_Fr D B ra cA E n0 d M p R s m args meth c) {nn : Nat} {C C1 : am_C} (hdg0 : decode (am_cc M) C.1 = .ok ((Instr.irem), nn)) (hn : am_ln (Instr.irem) = 0 ∨ nn = am_ln (Instr.irem)) (h : am_one E M (Instr.irem) C.1 C.2.1 C.2.2.1 C.2.2.2 = some C1) (kk : am_AW D B ra cA n0 n1 z1 M p l e R s m args below meth c Q C1) : am_AW D B ra cA n0 n1 z1 M p l e R s m args below meth c Q C := by
  obtain ⟨pc, ls, st, hp⟩ := C
  intro H locs lsA cells slots hP hS hl hc hs hnn
  obtain ⟨hx, hb, hml, hown, hts, hK, hro, hr, hlk, hini, hB, hR1, hR2, hok, hR3, hR4⟩ := F
  obtain rfl : nn = 1 := hn.resolve_left (by simp [am_ln])
  have hdg : decode (am_cc M) pc = .ok ((Instr.irem), 1) := hdg0
  simp only [am_one] at h
  split at h
  · next y x r =>
    simp only [am_i2] at h
    by_cases hy : y = 0
    · rw [if_pos hy] at h
      cases h
    · rw [if_neg hy] at h
      cases h
      refine lv_irem hx hb hdg hy ?_
      exact kk H locs lsA cells slots hP hS hl hc hs hnn
  · cases h
set_option maxHeartbeats 4000000 in
theorem am_o_ladd  (F : am_Fr D B ra cA E n0 d M p R s m args meth c) {nn : Nat} {C C1 : am_C} (hdg0 : decode (am_cc M) C.1 = .ok ((Instr.ladd), nn)) (hn : am_ln (Instr.ladd) = 0 ∨ nn = am_ln (Instr.ladd)) (h : am_one E M (Instr.ladd) C.1 C.2.1 C.2.2.1 C.2.2.2 = some C1) (kk : am_AW D B ra cA n0 n1 z1 M p l e R s m args below meth c Q C1) : am_AW D B ra cA n0 n1 z1 M p l e R s m args below meth c Q C := by
  obtain ⟨pc, ls, st, hp⟩ := C
  intro H locs lsA cells slots hP hS hl hc hs hnn
  obtain ⟨hx, hb, hml, hown, hts, hK, hro, hr, hlk, hini, hB, hR1, hR2, hok, hR3, hR4⟩ := F
  obtain rfl : nn = 1 := hn.resolve_left (by simp [am_ln])
  have hdg : decode (am_cc M) pc = .ok ((Instr.ladd), 1) := hdg0
  simp only [am_one] at h
  split at h
  · next y x r =>
    simp only [am_l2] at h
    cases h
    refine lv_ladd hx hb hdg ?_
    exact kk H locs lsA cells slots hP hS hl hc hs hnn
  · cases h
set_option maxHeartbeats 4000000 in
theorem am_o_lsub  (F : am_Fr D B ra cA E n0 d M p R s m args meth c) {nn : Nat} {C C1 : am_C} (hdg0 : decode (am_cc M) C.1 = .ok ((Instr.lsub), nn)) (hn : am_ln (Instr.lsub) = 0 ∨ nn = am_ln (Instr.lsub)) (h : am_one E M (Instr.lsub) C.1 C.2.1 C.2.2.1 C.2.2.2 = some C1) (kk : am_AW D B ra cA n0 n1 z1 M p l e R s m args below meth c Q C1) : am_AW D B ra cA n0 n1 z1 M p l e R s m args below meth c Q C := by
  obtain ⟨pc, ls, st, hp⟩ := C
  intro H locs lsA cells slots hP hS hl hc hs hnn
  obtain ⟨hx, hb, hml, hown, hts, hK, hro, hr, hlk, hini, hB, hR1, hR2, hok, hR3, hR4⟩ := F
  obtain rfl : nn = 1 := hn.resolve_left (by simp [am_ln])
  have hdg : decode (am_cc M) pc = .ok ((Instr.lsub), 1) := hdg0
  simp only [am_one] at h
  split at h
  · next y x r =>
    simp only [am_l2] at h
    cases h
    refine lv_lsub hx hb hdg ?_
    exact kk H locs lsA cells slots hP hS hl hc hs hnn
  · cases h
set_option maxHeartbeats 4000000 in
theorem am_o_lmul  (F : am_Fr D B ra cA E n0 d M p R s m args meth c) {nn : Nat} {C C1 : am_C} (hdg0 : decode (am_cc M) C.1 = .ok ((Instr.lmul), nn)) (hn : am_ln (Instr.lmul) = 0 ∨ nn = am_ln (Instr.lmul)) (h : am_one E M (Instr.lmul) C.1 C.2.1 C.2.2.1 C.2.2.2 = some C1) (kk : am_AW D B ra cA n0 n1 z1 M p l e R s m args below meth c Q C1) : am_AW D B ra cA n0 n1 z1 M p l e R s m args below meth c Q C := by
  obtain ⟨pc, ls, st, hp⟩ := C
  intro H locs lsA cells slots hP hS hl hc hs hnn
  obtain ⟨hx, hb, hml, hown, hts, hK, hro, hr, hlk, hini, hB, hR1, hR2, hok, hR3, hR4⟩ := F
  obtain rfl : nn = 1 := hn.resolve_left (by simp [am_ln])
  have hdg : decode (am_cc M) pc = .ok ((Instr.lmul), 1) := hdg0
  simp only [am_one] at h
  split at h
  · next y x r =>
    simp only [am_l2] at h
    cases h
    refine lv_lmul hx hb hdg ?_
    exact kk H locs lsA cells slots hP hS hl hc hs hnn
  · cases h
set_option maxHeartbeats 4000000 in
theorem am_o_land  (F : am_Fr D B ra cA E n0 d M p R s m args meth c) {nn : Nat} {C C1 : am_C} (hdg0 : decode (am_cc M) C.1 = .ok ((Instr.land), nn)) (hn : am_ln (Instr.land) = 0 ∨ nn = am_ln (Instr.land)) (h : am_one E M (Instr.land) C.1 C.2.1 C.2.2.1 C.2.2.2 = some C1) (kk : am_AW D B ra cA n0 n1 z1 M p l e R s m args below meth c Q C1) : am_AW D B ra cA n0 n1 z1 M p l e R s m args below meth c Q C := by
  obtain ⟨pc, ls, st, hp⟩ := C
  intro H locs lsA cells slots hP hS hl hc hs hnn
  obtain ⟨hx, hb, hml, hown, hts, hK, hro, hr, hlk, hini, hB, hR1, hR2, hok, hR3, hR4⟩ := F
  obtain rfl : nn = 1 := hn.resolve_left (by simp [am_ln])
  have hdg : decode (am_cc M) pc = .ok ((Instr.land), 1) := hdg0
  simp only [am_one] at h
  split at h
  · next y x r =>
    simp only [am_l2] at h
    cases h
    refine lv_land hx hb hdg ?_
    exact kk H locs lsA cells slots hP hS hl hc hs hnn
  · cases h
set_option maxHeartbeats 4000000 in
theorem am_o_lor  (F : am_Fr D B ra cA E n0 d M p R s m args meth c) {nn : Nat} {C C1 : am_C} (hdg0 : decode (am_cc M) C.1 = .ok ((Instr.lor), nn)) (hn : am_ln (Instr.lor) = 0 ∨ nn = am_ln (Instr.lor)) (h : am_one E M (Instr.lor) C.1 C.2.1 C.2.2.1 C.2.2.2 = some C1) (kk : am_AW D B ra cA n0 n1 z1 M p l e R s m args below meth c Q C1) : am_AW D B ra cA n0 n1 z1 M p l e R s m args below meth c Q C := by
  obtain ⟨pc, ls, st, hp⟩ := C
  intro H locs lsA cells slots hP hS hl hc hs hnn
  obtain ⟨hx, hb, hml, hown, hts, hK, hro, hr, hlk, hini, hB, hR1, hR2, hok, hR3, hR4⟩ := F
  obtain rfl : nn = 1 := hn.resolve_left (by simp [am_ln])
  have hdg : decode (am_cc M) pc = .ok ((Instr.lor), 1) := hdg0
  simp only [am_one] at h
  split at h
  · next y x r =>
    simp only [am_l2] at h
    cases h
    refine lv_lor hx hb hdg ?_
    exact kk H locs lsA cells slots hP hS hl hc hs hnn
  · cases h
set_option maxHeartbeats 4000000 in
theorem am_o_ldiv  (F : am_Fr D B ra cA E n0 d M p R s m args meth c) {nn : Nat} {C C1 : am_C} (hdg0 : decode (am_cc M) C.1 = .ok ((Instr.ldiv), nn)) (hn : am_ln (Instr.ldiv) = 0 ∨ nn = am_ln (Instr.ldiv)) (h : am_one E M (Instr.ldiv) C.1 C.2.1 C.2.2.1 C.2.2.2 = some C1) (kk : am_AW D B ra cA n0 n1 z1 M p l e R s m args below meth c Q C1) : am_AW D B ra cA n0 n1 z1 M p l e R s m args below meth c Q C := by
  obtain ⟨pc, ls, st, hp⟩ := C
  intro H locs lsA cells slots hP hS hl hc hs hnn
  obtain ⟨hx, hb, hml, hown, hts, hK, hro, hr, hlk, hini, hB, hR1, hR2, hok, hR3, hR4⟩ := F
  obtain rfl : nn = 1 := hn.resolve_left (by simp [am_ln])
  have hdg : decode (am_cc M) pc = .ok ((Instr.ldiv), 1) := hdg0
  simp only [am_one] at h
  split at h
  · next y x r =>
    simp only [am_l2] at h
    by_cases hy : y = 0
    · rw [if_pos hy] at h
      cases h
    · rw [if_neg hy] at h
      cases h
      refine lv_ldiv hx hb hdg hy ?_
      exact kk H locs lsA cells slots hP hS hl hc hs hnn
  · cases h
set_option maxHeartbeats 4000000 in
theorem am_o_lrem  (F : am_Fr D B ra cA E n0 d M p R s m args meth c) {nn : Nat} {C C1 : am_C} (hdg0 : decode (am_cc M) C.1 = .ok ((Instr.lrem), nn)) (hn : am_ln (Instr.lrem) = 0 ∨ nn = am_ln (Instr.lrem)) (h : am_one E M (Instr.lrem) C.1 C.2.1 C.2.2.1 C.2.2.2 = some C1) (kk : am_AW D B ra cA n0 n1 z1 M p l e R s m args below meth c Q C1) : am_AW D B ra cA n0 n1 z1 M p l e R s m args below meth c Q C := by
  obtain ⟨pc, ls, st, hp⟩ := C
  intro H locs lsA cells slots hP hS hl hc hs hnn
  obtain ⟨hx, hb, hml, hown, hts, hK, hro, hr, hlk, hini, hB, hR1, hR2, hok, hR3, hR4⟩ := F
  obtain rfl : nn = 1 := hn.resolve_left (by simp [am_ln])
  have hdg : decode (am_cc M) pc = .ok ((Instr.lrem), 1) := hdg0
  simp only [am_one] at h
  split at h
  · next y x r =>
    simp only [am_l2] at h
    by_cases hy : y = 0
    · rw [if_pos hy] at h
      cases h
    · rw [if_neg hy] at h
      cases h
      refine lv_lrem hx hb hdg hy ?_
      exact kk H locs lsA cells slots hP hS hl hc hs hnn
  · cases h
set_option maxHeartbeats 4000000 in
theorem am_o_lshl  (F : am_Fr D B ra cA E n0 d M p R s m args meth c) {nn : Nat} {C C1 : am_C} (hdg0 : decode (am_cc M) C.1 = .ok ((Instr.lshl), nn)) (hn : am_ln (Instr.lshl) = 0 ∨ nn = am_ln (Instr.lshl)) (h : am_one E M (Instr.lshl) C.1 C.2.1 C.2.2.1 C.2.2.2 = some C1) (kk : am_AW D B ra cA n0 n1 z1 M p l e R s m args below meth c Q C1) : am_AW D B ra cA n0 n1 z1 M p l e R s m args below meth c Q C := by
  obtain ⟨pc, ls, st, hp⟩ := C
  intro H locs lsA cells slots hP hS hl hc hs hnn
  obtain ⟨hx, hb, hml, hown, hts, hK, hro, hr, hlk, hini, hB, hR1, hR2, hok, hR3, hR4⟩ := F
  obtain rfl : nn = 1 := hn.resolve_left (by simp [am_ln])
  have hdg : decode (am_cc M) pc = .ok ((Instr.lshl), 1) := hdg0
  simp only [am_one] at h
  split at h
  · cases h
    refine lv_lshl hx hb hdg rfl ?_
    exact kk H locs lsA cells slots hP hS hl hc hs hnn
  · cases h
set_option maxHeartbeats 4000000 in
theorem am_o_lshr  (F : am_Fr D B ra cA E n0 d M p R s m args meth c) {nn : Nat} {C C1 : am_C} (hdg0 : decode (am_cc M) C.1 = .ok ((Instr.lshr), nn)) (hn : am_ln (Instr.lshr) = 0 ∨ nn = am_ln (Instr.lshr)) (h : am_one E M (Instr.lshr) C.1 C.2.1 C.2.2.1 C.2.2.2 = some C1) (kk : am_AW D B ra cA n0 n1 z1 M p l e R s m args below meth c Q C1) : am_AW D B ra cA n0 n1 z1 M p l e R s m args below meth c Q C := by
  obtain ⟨pc, ls, st, hp⟩ := C
  intro H locs lsA cells slots hP hS hl hc hs hnn
  obtain ⟨hx, hb, hml, hown, hts, hK, hro, hr, hlk, hini, hB, hR1, hR2, hok, hR3, hR4⟩ := F
  obtain rfl : nn = 1 := hn.resolve_left (by simp [am_ln])
  have hdg : decode (am_cc M) pc = .ok ((Instr.lshr), 1) := hdg0
  simp only [am_one] at h
  split at h
  · cases h
    refine lv_lshr hx hb hdg rfl ?_
    exact kk H locs lsA cells slots hP hS hl hc hs hnn
  · cases h
set_option maxHeartbeats 4000000 in
theorem am_o_lcmp  (F : am_Fr D B ra cA E n0 d M p R s m args meth c) {nn : Nat} {C C1 : am_C} (hdg0 : decode (am_cc M) C.1 = .ok ((Instr.lcmp), nn)) (hn : am_ln (Instr.lcmp) = 0 ∨ nn = am_ln (Instr.lcmp)) (h : am_one E M (Instr.lcmp) C.1 C.2.1 C.2.2.1 C.2.2.2 = some C1) (kk : am_AW D B ra cA n0 n1 z1 M p l e R s m args below meth c Q C1) : am_AW D B ra cA n0 n1 z1 M p l e R s m args below meth c Q C := by
  obtain ⟨pc, ls, st, hp⟩ := C
  intro H locs lsA cells slots hP hS hl hc hs hnn
  obtain ⟨hx, hb, hml, hown, hts, hK, hro, hr, hlk, hini, hB, hR1, hR2, hok, hR3, hR4⟩ := F
  obtain rfl : nn = 1 := hn.resolve_left (by simp [am_ln])
  have hdg : decode (am_cc M) pc = .ok ((Instr.lcmp), 1) := hdg0
  simp only [am_one] at h
  split at h
  · cases h
    refine W.lcmp hx hb hdg ?_
    exact kk H locs lsA cells slots hP hS hl hc hs hnn
  · cases h
set_option maxHeartbeats 4000000 in
theorem am_o_i2l  (F : am_Fr D B ra cA E n0 d M p R s m args meth c) {nn : Nat} {C C1 : am_C} (hdg0 : decode (am_cc M) C.1 = .ok ((Instr.i2l), nn)) (hn : am_ln (Instr.i2l) = 0 ∨ nn = am_ln (Instr.i2l)) (h : am_one E M (Instr.i2l) C.1 C.2.1 C.2.2.1 C.2.2.2 = some C1) (kk : am_AW D B ra cA n0 n1 z1 M p l e R s m args below meth c Q C1) : am_AW D B ra cA n0 n1 z1 M p l e R s m args below meth c Q C := by
  obtain ⟨pc, ls, st, hp⟩ := C
  intro H locs lsA cells slots hP hS hl hc hs hnn
  obtain ⟨hx, hb, hml, hown, hts, hK, hro, hr, hlk, hini, hB, hR1, hR2, hok, hR3, hR4⟩ := F
  obtain rfl : nn = 1 := hn.resolve_left (by simp [am_ln])
  have hdg : decode (am_cc M) pc = .ok ((Instr.i2l), 1) := hdg0
  simp only [am_one] at h
  split at h
  · cases h
    refine lv_i2l hx hb hdg rfl ?_
    exact kk H locs lsA cells slots hP hS hl hc hs hnn
  · cases h
set_option maxHeartbeats 4000000 in
theorem am_o_l2i  (F : am_Fr D B ra cA E n0 d M p R s m args meth c) {nn : Nat} {C C1 : am_C} (hdg0 : decode (am_cc M) C.1 = .ok ((Instr.l2i), nn)) (hn : am_ln (Instr.l2i) = 0 ∨ nn = am_ln (Instr.l2i)) (h : am_one E M (Instr.l2i) C.1 C.2.1 C.2.2.1 C.2.2.2 = some C1) (kk : am_AW D B ra cA n0 n1 z1 M p l e R s m args below meth c Q C1) : am_AW D B ra cA n0 n1 z1 M p l e R s m args below meth c Q C := by
  obtain ⟨pc, ls, st, hp⟩ := C
  intro H locs lsA cells slots hP hS hl hc hs hnn
  obtain ⟨hx, hb, hml, hown, hts, hK, hro, hr, hlk, hini, hB, hR1, hR2, hok, hR3, hR4⟩ := F
  obtain rfl : nn = 1 := hn.resolve_left (by simp [am_ln])
  have hdg : decode (am_cc M) pc = .ok ((Instr.l2i), 1) := hdg0
  simp only [am_one] at h
  split at h
  · cases h
    refine lv_l2i hx hb hdg rfl ?_
    exact kk H locs lsA cells slots hP hS hl hc hs hnn
  · cases h
set_option maxHeartbeats 4000000 in
theorem am_o_i2c  (F : am_Fr D B ra cA E n0 d M p R s m args meth c) {nn : Nat} {C C1 : am_C} (hdg0 : decode (am_cc M) C.1 = .ok ((Instr.i2c), nn)) (hn : am_ln (Instr.i2c) = 0 ∨ nn = am_ln (Instr.i2c)) (h : am_one E M (Instr.i2c) C.1 C.2.1 C.2.2.1 C.2.2.2 = some C1) (kk : am_AW D B ra cA n0 n1 z1 M p l e R s m args below meth c Q C1) : am_AW D B ra cA n0 n1 z1 M p l e R s m args below meth c Q C := by
  obtain ⟨pc, ls, st, hp⟩ := C
  intro H locs lsA cells slots hP hS hl hc hs hnn
  obtain ⟨hx, hb, hml, hown, hts, hK, hro, hr, hlk, hini, hB, hR1, hR2, hok, hR3, hR4⟩ := F
  obtain rfl : nn = 1 := hn.resolve_left (by simp [am_ln])
  have hdg : decode (am_cc M) pc = .ok ((Instr.i2c), 1) := hdg0
  simp only [am_one] at h
  split at h
  · cases h
    refine lv_i2c hx hb hdg rfl ?_
    exact kk H locs lsA cells slots hP hS hl hc hs hnn
  · cases h
set_option maxHeartbeats 4000000 in
theorem am_o_dup  (F : am_Fr D B ra cA E n0 d M p R s m args meth c) {nn : Nat} {C C1 : am_C} (hdg0 : decode (am_cc M) C.1 = .ok ((Instr.dup), nn)) (hn : am_ln (Instr.dup) = 0 ∨ nn = am_ln (Instr.dup)) (h : am_one E M (Instr.dup) C.1 C.2.1 C.2.2.1 C.2.2.2 = some C1) (kk : am_AW D B ra cA n0 n1 z1 M p l e R s m args below meth c Q C1) : am_AW D B ra cA n0 n1 z1 M p l e R s m args below meth c Q C := by
  obtain ⟨pc, ls, st, hp⟩ := C
  intro H locs lsA cells slots hP hS hl hc hs hnn
  obtain ⟨hx, hb, hml, hown, hts, hK, hro, hr, hlk, hini, hB, hR1, hR2, hok, hR3, hR4⟩ := F
  obtain rfl : nn = 1 := hn.resolve_left (by simp [am_ln])
  have hdg : decode (am_cc M) pc = .ok ((Instr.dup), 1) := hdg0
  simp only [am_one] at h
  split at h
  · next v r =>
    split at h
    · next hv =>
      cases h
      refine lv_dup hx hb hdg ((am_v_cat B ra v).trans hv) ?_
      exact kk H locs lsA cells slots hP hS hl hc hs hnn
    · cases h
  · cases h
set_option maxHeartbeats 4000000 in
theorem am_o_pop  (F : am_Fr D B ra cA E n0 d M p R s m args meth c) {nn : Nat} {C C1 : am_C} (hdg0 : decode (am_cc M) C.1 = .ok ((Instr.pop), nn)) (hn : am_ln (Instr.pop) = 0 ∨ nn = am_ln (Instr.pop)) (h : am_one E M (Instr.pop) C.1 C.2.1 C.2.2.1 C.2.2.2 = some C1) (kk : am_AW D B ra cA n0 n1 z1 M p l e R s m args below meth c Q C1) : am_AW D B ra cA n0 n1 z1 M p l e R s m args below meth c Q C := by
  obtain ⟨pc, ls, st, hp⟩ := C
  intro H locs lsA cells slots hP hS hl hc hs hnn
  obtain ⟨hx, hb, hml, hown, hts, hK, hro, hr, hlk, hini, hB, hR1, hR2, hok, hR3, hR4⟩ := F
  obtain rfl : nn = 1 := hn.resolve_left (by simp [am_ln])
  have hdg : decode (am_cc M) pc = .ok ((Instr.pop), 1) := hdg0
  simp only [am_one] at h
  split at h
  · next v r =>
    split at h
    · next hv =>
      cases h
      refine lv_pop hx hb hdg ((am_v_cat B ra v).trans hv) ?_
      exact kk H locs lsA cells slots hP hS hl hc hs hnn
    · cases h
  · cases h
set_option maxHeartbeats 4000000 in
theorem am_o_dup2  (F : am_Fr D B ra cA E n0 d M p R s m args meth c) {nn : Nat} {C C1 : am_C} (hdg0 : decode (am_cc M) C.1 = .ok ((Instr.dup2), nn)) (hn : am_ln (Instr.dup2) = 0 ∨ nn = am_ln (Instr.dup2)) (h : am_one E M (Instr.dup2) C.1 C.2.1 C.2.2.1 C.2.2.2 = some C1) (kk : am_AW D B ra cA n0 n1 z1 M p l e R s m args below meth c Q C1) : am_AW D B ra cA n0 n1 z1 M p l e R s m args below meth c Q C := by
  obtain ⟨pc, ls, st, hp⟩ := C
  intro H locs lsA cells slots hP hS hl hc hs hnn
  obtain ⟨hx, hb, hml, hown, hts, hK, hro, hr, hlk, hini, hB, hR1, hR2, hok, hR3, hR4⟩ := F
  obtain rfl : nn = 1 := hn.resolve_left (by simp [am_ln])
  have hdg : decode (am_cc M) pc = .ok ((Instr.dup2), 1) := hdg0
  simp only [am_one] at h
  split at h
  · next v w r =>
    split at h
    · next hv =>
      cases h
      refine lv_dup2_11 hx hb hdg ((am_v_cat B ra v).trans hv.1) ((am_v_cat B ra w).trans hv.2) ?_
      exact kk H locs lsA cells slots hP hS hl hc hs hnn
    · split at h
      · next hv =>
        cases h
        refine lv_dup2_2 hx hb hdg ((am_v_cat B ra v).trans hv) ?_
        exact kk H locs lsA cells slots hP hS hl hc hs hnn
      · cases h
  · next v =>
    split at h
    · next hv =>
      cases h
      refine lv_dup2_2 hx hb hdg ((am_v_cat B ra v).trans hv) ?_
      exact kk H locs lsA cells slots hP hS hl hc hs hnn
    · cases h
  · cases h
set_option maxHeartbeats 4000000 in
theorem am_o_ifCond (cd : ClassFile.Cond) (off : Int) (F : am_Fr D B ra cA E n0 d M p R s m args meth c) {nn : Nat} {C C1 : am_C} (hdg0 : decode (am_cc M) C.1 = .ok ((Instr.ifCond cd off), nn)) (hn : am_ln (Instr.ifCond cd off) = 0 ∨ nn = am_ln (Instr.ifCond cd off)) (h : am_one E M (Instr.ifCond cd off) C.1 C.2.1 C.2.2.1 C.2.2.2 = some C1) (kk : am_AW D B ra cA n0 n1 z1 M p l e R s m args below meth c Q C1) : am_AW D B ra cA n0 n1 z1 M p l e R s m args below meth c Q C := by
  obtain ⟨pc, ls, st, hp⟩ := C
  intro H locs lsA cells slots hP hS hl hc hs hnn
  obtain ⟨hx, hb, hml, hown, hts, hK, hro, hr, hlk, hini, hB, hR1, hR2, hok, hR3, hR4⟩ := F
  obtain rfl : nn = 3 := hn.resolve_left (by simp [am_ln])
  have hdg : decode (am_cc M) pc = .ok ((Instr.ifCond cd off), 3) := hdg0
  simp only [am_one] at h
  split at h
  · next x r t ht =>
    cases h
    cases cd with
    | eq =>
      refine lv_if_eq hx hb hdg (am_to_ok ht) (fun q => ?_) (fun q => ?_)
      · have hq : am_cc2 .eq x 0 = true := decide_eq_true q
        have kk2 := kk H locs lsA cells slots hP hS hl hc hs hnn
        rw [if_pos hq] at kk2
        exact kk2
      · have hq : ¬ am_cc2 .eq x 0 = true := fun z => q (of_decide_eq_true z)
        have kk2 := kk H locs lsA cells slots hP hS hl hc hs hnn
        rw [if_neg hq] at kk2
        exact kk2
    | ne =>
      refine lv_if_ne hx hb hdg (am_to_ok ht) (fun q => ?_) (fun q => ?_)
      · have hq : am_cc2 .ne x 0 = true := decide_eq_true q
        have kk2 := kk H locs lsA cells slots hP hS hl hc hs hnn
        rw [if_pos hq] at kk2
        exact kk2
      · have hq : ¬ am_cc2 .ne x 0 = true := fun z => (of_decide_eq_true z) q
        have kk2 := kk H locs lsA cells slots hP hS hl hc hs hnn
        rw [if_neg hq] at kk2
        exact kk2
    | lt =>
      refine lv_if_lt hx hb hdg (am_to_ok ht) (fun q => ?_) (fun q => ?_)
      · have hq : am_cc2 .lt x 0 = true := decide_eq_true q
        have kk2 := kk H locs lsA cells slots hP hS hl hc hs hnn
        rw [if_pos hq] at kk2
        exact kk2
      · have hq : ¬ am_cc2 .lt x 0 = true := fun z => q (of_decide_eq_true z)
        have kk2 := kk H locs lsA cells slots hP hS hl hc hs hnn
        rw [if_neg hq] at kk2
        exact kk2
    | ge =>
      refine lv_if_ge hx hb hdg (am_to_ok ht) (fun q => ?_) (fun q => ?_)
      · have hq : am_cc2 .ge x 0 = true := decide_eq_true q
        have kk2 := kk H locs lsA cells slots hP hS hl hc hs hnn
        rw [if_pos hq] at kk2
        exact kk2
      · have hq : ¬ am_cc2 .ge x 0 = true := fun z => q (of_decide_eq_true z)
        have kk2 := kk H locs lsA cells slots hP hS hl hc hs hnn
        rw [if_neg hq] at kk2
        exact kk2
    | gt =>
      refine lv_if_gt hx hb hdg (am_to_ok ht) (fun q => ?_) (fun q => ?_)
      · have hq : am_cc2 .gt x 0 = true := decide_eq_true q
        have kk2 := kk H locs lsA cells slots hP hS hl hc hs hnn
        rw [if_pos hq] at kk2
        exact kk2
      · have hq : ¬ am_cc2 .gt x 0 = true := fun z => q (of_decide_eq_true z)
        have kk2 := kk H locs lsA cells slots hP hS hl hc hs hnn
        rw [if_neg hq] at kk2
        exact kk2
    | le =>
      refine lv_if_le hx hb hdg (am_to_ok ht) (fun q => ?_) (fun q => ?_)
      · have hq : am_cc2 .le x 0 = true := decide_eq_true q
        have kk2 := kk H locs lsA cells slots hP hS hl hc hs hnn
        rw [if_pos hq] at kk2
        exact kk2
      · have hq : ¬ am_cc2 .le x 0 = true := fun z => q (of_decide_eq_true z)
        have kk2 := kk H locs lsA cells slots hP hS hl hc hs hnn
        rw [if_neg hq] at kk2
        exact kk2
  · cases h
set_option maxHeartbeats 4000000 in
theorem am_o_if_icmp (cd : ClassFile.Cond) (off : Int) (F : am_Fr D B ra cA E n0 d M p R s m args meth c) {nn : Nat} {C C1 : am_C} (hdg0 : decode (am_cc M) C.1 = .ok ((Instr.if_icmp cd off), nn)) (hn : am_ln (Instr.if_icmp cd off) = 0 ∨ nn = am_ln (Instr.if_icmp cd off)) (h : am_one E M (Instr.if_icmp cd off) C.1 C.2.1 C.2.2.1 C.2.2.2 = some C1) (kk : am_AW D B ra cA n0 n1 z1 M p l e R s m args below meth c Q C1) : am_AW D B ra cA n0 n1 z1 M p l e R s m args below meth c Q C := by
  obtain ⟨pc, ls, st, hp⟩ := C
  intro H locs lsA cells slots hP hS hl hc hs hnn
  obtain ⟨hx, hb, hml, hown, hts, hK, hro, hr, hlk, hini, hB, hR1, hR2, hok, hR3, hR4⟩ := F
  obtain rfl : nn = 3 := hn.resolve_left (by simp [am_ln])
  have hdg : decode (am_cc M) pc = .ok ((Instr.if_icmp cd off), 3) := hdg0
  simp only [am_one] at h
  split at h
  · next y x r t ht =>
    cases h
    cases cd with
    | eq =>
      refine lv_icmp_eq hx hb hdg (am_to_ok ht) (fun q => ?_) (fun q => ?_)
      · have hq : am_cc2 .eq x y = true := decide_eq_true q
        have kk2 := kk H locs lsA cells slots hP hS hl hc hs hnn
        rw [if_pos hq] at kk2
        exact kk2
      · have hq : ¬ am_cc2 .eq x y = true := fun z => q (of_decide_eq_true z)
        have kk2 := kk H locs lsA cells slots hP hS hl hc hs hnn
        rw [if_neg hq] at kk2
        exact kk2
    | ne =>
      refine lv_icmp_ne hx hb hdg (am_to_ok ht) (fun q => ?_) (fun q => ?_)
      · have hq : am_cc2 .ne x y = true := decide_eq_true q
        have kk2 := kk H locs lsA cells slots hP hS hl hc hs hnn
        rw [if_pos hq] at kk2
        exact kk2
      · have hq : ¬ am_cc2 .ne x y = true := fun z => (of_decide_eq_true z) q
        have kk2 := kk H locs lsA cells slots hP hS hl hc hs hnn
        rw [if_neg hq] at kk2
        exact kk2
    | lt =>
      refine lv_icmp_lt hx hb hdg (am_to_ok ht) (fun q => ?_) (fun q => ?_)
      · have hq : am_cc2 .lt x y = true := decide_eq_true q
        have kk2 := kk H locs lsA cells slots hP hS hl hc hs hnn
        rw [if_pos hq] at kk2
        exact kk2
      · have hq : ¬ am_cc2 .lt x y = true := fun z => q (of_decide_eq_true z)
        have kk2 := kk H locs lsA cells slots hP hS hl hc hs hnn
        rw [if_neg hq] at kk2
        exact kk2
    | ge =>
      refine lv_icmp_ge hx hb hdg (am_to_ok ht) (fun q => ?_) (fun q => ?_)
      · have hq : am_cc2 .ge x y = true := decide_eq_true q
        have kk2 := kk H locs lsA cells slots hP hS hl hc hs hnn
        rw [if_pos hq] at kk2
        exact kk2
      · have hq : ¬ am_cc2 .ge x y = true := fun z => q (of_decide_eq_true z)
        have kk2 := kk H locs lsA cells slots hP hS hl hc hs hnn
        rw [if_neg hq] at kk2
        exact kk2
    | gt =>
      refine lv_icmp_gt hx hb hdg (am_to_ok ht) (fun q => ?_) (fun q => ?_)
      · have hq : am_cc2 .gt x y = true := decide_eq_true q
        have kk2 := kk H locs lsA cells slots hP hS hl hc hs hnn
        rw [if_pos hq] at kk2
        exact kk2
      · have hq : ¬ am_cc2 .gt x y = true := fun z => q (of_decide_eq_true z)
        have kk2 := kk H locs lsA cells slots hP hS hl hc hs hnn
        rw [if_neg hq] at kk2
        exact kk2
    | le =>
      refine lv_icmp_le hx hb hdg (am_to_ok ht) (fun q => ?_) (fun q => ?_)
      · have hq : am_cc2 .le x y = true := decide_eq_true q
        have kk2 := kk H locs lsA cells slots hP hS hl hc hs hnn
        rw [if_pos hq] at kk2
        exact kk2
      · have hq : ¬ am_cc2 .le x y = true := fun z => q (of_decide_eq_true z)
        have kk2 := kk H locs lsA cells slots hP hS hl hc hs hnn
        rw [if_neg hq] at kk2
        exact kk2
  · cases h
set_option maxHeartbeats 4000000 in
theorem am_o_goto (off : Int) (F : am_Fr D B ra cA E n0 d M p R s m args meth c) {nn : Nat} {C C1 : am_C} (hdg0 : decode (am_cc M) C.1 = .ok ((Instr.goto off), nn)) (hn : am_ln (Instr.goto off) = 0 ∨ nn = am_ln (Instr.goto off)) (h : am_one E M (Instr.goto off) C.1 C.2.1 C.2.2.1 C.2.2.2 = some C1) (kk : am_AW D B ra cA n0 n1 z1 M p l e R s m args below meth c Q C1) : am_AW D B ra cA n0 n1 z1 M p l e R s m args below meth c Q C := by
  obtain ⟨pc, ls, st, hp⟩ := C
  intro H locs lsA cells slots hP hS hl hc hs hnn
  obtain ⟨hx, hb, hml, hown, hts, hK, hro, hr, hlk, hini, hB, hR1, hR2, hok, hR3, hR4⟩ := F
  obtain rfl : nn = 3 := hn.resolve_left (by simp [am_ln])
  have hdg : decode (am_cc M) pc = .ok ((Instr.goto off), 3) := hdg0
  simp only [am_one] at h
  split at h
  · next t ht =>
    cases h
    refine lv_goto hx hb hdg (am_to_ok ht) ?_
    exact kk H locs lsA cells slots hP hS hl hc hs hnn
  · cases h
set_option maxHeartbeats 4000000 in
theorem am_o_tableswitch (dflt lo hi : Int) (offs : Array Int) (F : am_Fr D B ra cA E n0 d M p R s m args meth c) {nn : Nat} {C C1 : am_C} (hdg0 : decode (am_cc M) C.1 = .ok ((Instr.tableswitch dflt lo hi offs), nn)) (hn : am_ln (Instr.tableswitch dflt lo hi offs) = 0 ∨ nn = am_ln (Instr.tableswitch dflt lo hi offs)) (h : am_one E M (Instr.tableswitch dflt lo hi offs) C.1 C.2.1 C.2.2.1 C.2.2.2 = some C1) (kk : am_AW D B ra cA n0 n1 z1 M p l e R s m args below meth c Q C1) : am_AW D B ra cA n0 n1 z1 M p l e R s m args below meth c Q C := by
  obtain ⟨pc, ls, st, hp⟩ := C
  intro H locs lsA cells slots hP hS hl hc hs hnn
  obtain ⟨hx, hb, hml, hown, hts, hK, hro, hr, hlk, hini, hB, hR1, hR2, hok, hR3, hR4⟩ := F
  have hdg : decode (am_cc M) pc = .ok ((Instr.tableswitch dflt lo hi offs), nn) := hdg0
  simp only [am_one] at h
  split at h
  · next x r =>
    split at h
    · next ho =>
      split at h
      · next t ht =>
        cases h
        refine lv_tableOut hx hb hdg ho (am_to_ok ht) ?_
        exact kk H locs lsA cells slots hP hS hl hc hs hnn
      · cases h
    · next ho =>
      split at h
      · next off hoff =>
        split at h
        · next t ht =>
          cases h
          refine lv_tableIn hx hb hdg (fun z => ho (Or.inl z)) (fun z => ho (Or.inr z)) hoff (am_to_ok ht) ?_
          exact kk H locs lsA cells slots hP hS hl hc hs hnn
        · cases h
      · cases h
  · cases h
set_option maxHeartbeats 4000000 in
theorem am_o_lookupswitch (dflt : Int) (ps : Array (Int × Int)) (F : am_Fr D B ra cA E n0 d M p R s m args meth c) {nn : Nat} {C C1 : am_C} (hdg0 : decode (am_cc M) C.1 = .ok ((Instr.lookupswitch dflt ps), nn)) (hn : am_ln (Instr.lookupswitch dflt ps) = 0 ∨ nn = am_ln (Instr.lookupswitch dflt ps)) (h : am_one E M (Instr.lookupswitch dflt ps) C.1 C.2.1 C.2.2.1 C.2.2.2 = some C1) (kk : am_AW D B ra cA n0 n1 z1 M p l e R s m args below meth c Q C1) : am_AW D B ra cA n0 n1 z1 M p l e R s m args below meth c Q C := by
  obtain ⟨pc, ls, st, hp⟩ := C
  intro H locs lsA cells slots hP hS hl hc hs hnn
  obtain ⟨hx, hb, hml, hown, hts, hK, hro, hr, hlk, hini, hB, hR1, hR2, hok, hR3, hR4⟩ := F
  have hdg : decode (am_cc M) pc = .ok ((Instr.lookupswitch dflt ps), nn) := hdg0
  simp only [am_one] at h
  split at h
  · next x r =>
    split at h
    · next ho =>
      split at h
      · next t ht =>
        cases h
        refine lv_lookup hx hb hdg ho rfl (am_to_ok ht) ?_
        exact kk H locs lsA cells slots hP hS hl hc hs hnn
      · cases h
    · cases h
  · cases h
end AMO
