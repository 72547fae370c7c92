/-! one instruction, whichever; the instructions that make cells -/
section AMQ
variable {D : va_G} {B : Nat} {ra : Nat → Nat} {cA : Nat → ClassId} {E : am_Env} {n0 n1 z1 d : Nat} {M : am_M} {p : Program} {l : Launch} {e : Env} {R : Room} {s : State} {m : MethodId} {args : Array Value} {below : List Frame} {meth : Method} {c : Code} {Q : State → Prop}
set_option maxHeartbeats 4000000 in
theorem am_one_ok {i : Instr} (F : am_Fr D B ra cA E n0 d M p R s m args meth c) {nn : Nat} {C C1 : am_C} (hdg0 : decode (am_cc M) C.1 = .ok (i, nn)) (hn : am_ln i = 0 ∨ nn = am_ln i) (h : am_one E M i C.1 C.2.1 C.2.2.1 C.2.2.2 = some C1) (kk : am_AW D B ra cA n0 n1 z1 M p l e R s m args below meth c Q C1) : am_AW D B ra cA n0 n1 z1 M p l e R s m args below meth c Q C := by
  cases i with
  | iconst k => exact am_o_iconst k F hdg0 hn h kk
  | bipush k => exact am_o_bipush k F hdg0 hn h kk
  | sipush k => exact am_o_sipush k F hdg0 hn h kk
  | lconst k => exact am_o_lconst k F hdg0 hn h kk
  | iload_n k => exact am_o_iload_n k F hdg0 hn h kk
  | iload k => exact am_o_iload k F hdg0 hn h kk
  | lload_n k => exact am_o_lload_n k F hdg0 hn h kk
  | lload k => exact am_o_lload k F hdg0 hn h kk
  | aload_n k => exact am_o_aload_n k F hdg0 hn h kk
  | aload k => exact am_o_aload k F hdg0 hn h kk
  | istore_n k => exact am_o_istore_n k F hdg0 hn h kk
  | istore k => exact am_o_istore k F hdg0 hn h kk
  | lstore_n k => exact am_o_lstore_n k F hdg0 hn h kk
  | lstore k => exact am_o_lstore k F hdg0 hn h kk
  | astore_n k => exact am_o_astore_n k F hdg0 hn h kk
  | astore k => exact am_o_astore k F hdg0 hn h kk
  | iinc k n => exact am_o_iinc k n F hdg0 hn h kk
  | iadd => exact am_o_iadd F hdg0 hn h kk
  | isub => exact am_o_isub F hdg0 hn h kk
  | imul => exact am_o_imul F hdg0 hn h kk
  | iand => exact am_o_iand F hdg0 hn h kk
  | ior => exact am_o_ior F hdg0 hn h kk
  | ixor => exact am_o_ixor F hdg0 hn h kk
  | ishl => exact am_o_ishl F hdg0 hn h kk
  | ishr => exact am_o_ishr F hdg0 hn h kk
  | iushr => exact am_o_iushr F hdg0 hn h kk
  | idiv => exact am_o_idiv F hdg0 hn h kk
  | irem => exact am_o_irem F hdg0 hn h kk
  | ladd => exact am_o_ladd F hdg0 hn h kk
  | lsub => exact am_o_lsub F hdg0 hn h kk
  | lmul => exact am_o_lmul F hdg0 hn h kk
  | land => exact am_o_land F hdg0 hn h kk
  | lor => exact am_o_lor F hdg0 hn h kk
  | ldiv => exact am_o_ldiv F hdg0 hn h kk
  | lrem => exact am_o_lrem F hdg0 hn h kk
  | lshl => exact am_o_lshl F hdg0 hn h kk
  | lshr => exact am_o_lshr F hdg0 hn h kk
  | lcmp => exact am_o_lcmp F hdg0 hn h kk
  | i2l => exact am_o_i2l F hdg0 hn h kk
  | l2i => exact am_o_l2i F hdg0 hn h kk
  | i2c => exact am_o_i2c F hdg0 hn h kk
  | dup => exact am_o_dup F hdg0 hn h kk
  | pop => exact am_o_pop F hdg0 hn h kk
  | dup2 => exact am_o_dup2 F hdg0 hn h kk
  | ifCond cd off => exact am_o_ifCond cd off F hdg0 hn h kk
  | if_icmp cd off => exact am_o_if_icmp cd off F hdg0 hn h kk
  | goto off => exact am_o_goto off F hdg0 hn h kk
  | tableswitch dflt lo hi offs => exact am_o_tableswitch dflt lo hi offs F hdg0 hn h kk
  | lookupswitch dflt ps => exact am_o_lookupswitch dflt ps F hdg0 hn h kk
  | getfield x => exact am_o_getfield x F hdg0 hn h kk
  | putfield x => exact am_o_putfield x F hdg0 hn h kk
  | getstatic x => exact am_o_getstatic x F hdg0 hn h kk
  | ldc x => exact am_o_ldc x F hdg0 hn h kk
  | ldc_w x => exact am_o_ldc_w x F hdg0 hn h kk
  | ldc2_w x => exact am_o_ldc2_w x F hdg0 hn h kk
  | iaload => exact am_o_iaload F hdg0 hn h kk
  | laload => exact am_o_laload F hdg0 hn h kk
  | caload => exact am_o_caload F hdg0 hn h kk
  | aaload => exact am_o_aaload F hdg0 hn h kk
  | baload => exact am_o_baload F hdg0 hn h kk
  | iastore => exact am_o_iastore F hdg0 hn h kk
  | lastore => exact am_o_lastore F hdg0 hn h kk
  | castore => exact am_o_castore F hdg0 hn h kk
  | arraylength => exact am_o_arraylength F hdg0 hn h kk
  | invokestatic x => exact am_o_invokestatic x F hdg0 hn h kk
  | invokespecial x => exact am_o_invokespecial x F hdg0 hn h kk
  | _ => simp [am_one] at h
set_option maxHeartbeats 4000000 in
theorem am_one_sz {i : Instr} {pc : Nat} {ls : am_L} {st : List Value} {hp : am_H} {C1 : am_C} (h : am_one E M i pc ls st hp = some C1) : C1.2.2.2.length = hp.length ∧ am_sz C1.2.2.2 = am_sz hp := by
  cases i with
  | iconst k =>
    simp only [am_one] at h
    (repeat' split at h) <;> first | (cases h; done) | (cases h; exact ⟨rfl, rfl⟩) | (cases h; exact ⟨List.length_set, am_sz_set (by assumption) (by simp [am_cz])⟩)
  | bipush k =>
    simp only [am_one] at h
    (repeat' split at h) <;> first | (cases h; done) | (cases h; exact ⟨rfl, rfl⟩) | (cases h; exact ⟨List.length_set, am_sz_set (by assumption) (by simp [am_cz])⟩)
  | sipush k =>
    simp only [am_one] at h
    (repeat' split at h) <;> first | (cases h; done) | (cases h; exact ⟨rfl, rfl⟩) | (cases h; exact ⟨List.length_set, am_sz_set (by assumption) (by simp [am_cz])⟩)
  | lconst k =>
    simp only [am_one] at h
    (repeat' split at h) <;> first | (cases h; done) | (cases h; exact ⟨rfl, rfl⟩) | (cases h; exact ⟨List.length_set, am_sz_set (by assumption) (by simp [am_cz])⟩)
  | iload_n k =>
    simp only [am_one] at h
    (repeat' split at h) <;> first | (cases h; done) | (cases h; exact ⟨rfl, rfl⟩) | (cases h; exact ⟨List.length_set, am_sz_set (by assumption) (by simp [am_cz])⟩)
  | iload k =>
    simp only [am_one] at h
    (repeat' split at h) <;> first | (cases h; done) | (cases h; exact ⟨rfl, rfl⟩) | (cases h; exact ⟨List.length_set, am_sz_set (by assumption) (by simp [am_cz])⟩)
  | lload_n k =>
    simp only [am_one] at h
    (repeat' split at h) <;> first | (cases h; done) | (cases h; exact ⟨rfl, rfl⟩) | (cases h; exact ⟨List.length_set, am_sz_set (by assumption) (by simp [am_cz])⟩)
  | lload k =>
    simp only [am_one] at h
    (repeat' split at h) <;> first | (cases h; done) | (cases h; exact ⟨rfl, rfl⟩) | (cases h; exact ⟨List.length_set, am_sz_set (by assumption) (by simp [am_cz])⟩)
  | aload_n k =>
    simp only [am_one] at h
    (repeat' split at h) <;> first | (cases h; done) | (cases h; exact ⟨rfl, rfl⟩) | (cases h; exact ⟨List.length_set, am_sz_set (by assumption) (by simp [am_cz])⟩)
  | aload k =>
    simp only [am_one] at h
    (repeat' split at h) <;> first | (cases h; done) | (cases h; exact ⟨rfl, rfl⟩) | (cases h; exact ⟨List.length_set, am_sz_set (by assumption) (by simp [am_cz])⟩)
  | istore_n k =>
    simp only [am_one] at h
    (repeat' split at h) <;> first | (cases h; done) | (cases h; exact ⟨rfl, rfl⟩) | (cases h; exact ⟨List.length_set, am_sz_set (by assumption) (by simp [am_cz])⟩)
  | istore k =>
    simp only [am_one] at h
    (repeat' split at h) <;> first | (cases h; done) | (cases h; exact ⟨rfl, rfl⟩) | (cases h; exact ⟨List.length_set, am_sz_set (by assumption) (by simp [am_cz])⟩)
  | lstore_n k =>
    simp only [am_one] at h
    (repeat' split at h) <;> first | (cases h; done) | (cases h; exact ⟨rfl, rfl⟩) | (cases h; exact ⟨List.length_set, am_sz_set (by assumption) (by simp [am_cz])⟩)
  | lstore k =>
    simp only [am_one] at h
    (repeat' split at h) <;> first | (cases h; done) | (cases h; exact ⟨rfl, rfl⟩) | (cases h; exact ⟨List.length_set, am_sz_set (by assumption) (by simp [am_cz])⟩)
  | astore_n k =>
    simp only [am_one] at h
    (repeat' split at h) <;> first | (cases h; done) | (cases h; exact ⟨rfl, rfl⟩) | (cases h; exact ⟨List.length_set, am_sz_set (by assumption) (by simp [am_cz])⟩)
  | astore k =>
    simp only [am_one] at h
    (repeat' split at h) <;> first | (cases h; done) | (cases h; exact ⟨rfl, rfl⟩) | (cases h; exact ⟨List.length_set, am_sz_set (by assumption) (by simp [am_cz])⟩)
  | iinc k n =>
    simp only [am_one] at h
    (repeat' split at h) <;> first | (cases h; done) | (cases h; exact ⟨rfl, rfl⟩) | (cases h; exact ⟨List.length_set, am_sz_set (by assumption) (by simp [am_cz])⟩)
  | iadd =>
    simp only [am_one] at h
    (repeat' split at h) <;> first | (cases h; done) | (cases h; exact ⟨rfl, rfl⟩)
  | isub =>
    simp only [am_one] at h
    (repeat' split at h) <;> first | (cases h; done) | (cases h; exact ⟨rfl, rfl⟩)
  | imul =>
    simp only [am_one] at h
    (repeat' split at h) <;> first | (cases h; done) | (cases h; exact ⟨rfl, rfl⟩)
  | iand =>
    simp only [am_one] at h
    (repeat' split at h) <;> first | (cases h; done) | (cases h; exact ⟨rfl, rfl⟩)
  | ior =>
    simp only [am_one] at h
    (repeat' split at h) <;> first | (cases h; done) | (cases h; exact ⟨rfl, rfl⟩)
  | ixor =>
    simp only [am_one] at h
    (repeat' split at h) <;> first | (cases h; done) | (cases h; exact ⟨rfl, rfl⟩)
  | ishl =>
    simp only [am_one] at h
    (repeat' split at h) <;> first | (cases h; done) | (cases h; exact ⟨rfl, rfl⟩)
  | ishr =>
    simp only [am_one] at h
    (repeat' split at h) <;> first | (cases h; done) | (cases h; exact ⟨rfl, rfl⟩)
  | iushr =>
    simp only [am_one] at h
    (repeat' split at h) <;> first | (cases h; done) | (cases h; exact ⟨rfl, rfl⟩)
  | idiv =>
    simp only [am_one] at h
    (repeat' split at h) <;> first | (cases h; done) | (cases h; exact ⟨rfl, rfl⟩)
  | irem =>
    simp only [am_one] at h
    (repeat' split at h) <;> first | (cases h; done) | (cases h; exact ⟨rfl, rfl⟩)
  | ladd =>
    simp only [am_one] at h
    (repeat' split at h) <;> first | (cases h; done) | (cases h; exact ⟨rfl, rfl⟩)
  | lsub =>
    simp only [am_one] at h
    (repeat' split at h) <;> first | (cases h; done) | (cases h; exact ⟨rfl, rfl⟩)
  | lmul =>
    simp only [am_one] at h
    (repeat' split at h) <;> first | (cases h; done) | (cases h; exact ⟨rfl, rfl⟩)
  | land =>
    simp only [am_one] at h
    (repeat' split at h) <;> first | (cases h; done) | (cases h; exact ⟨rfl, rfl⟩)
  | lor =>
    simp only [am_one] at h
    (repeat' split at h) <;> first | (cases h; done) | (cases h; exact ⟨rfl, rfl⟩)
  | ldiv =>
    simp only [am_one] at h
    (repeat' split at h) <;> first | (cases h; done) | (cases h; exact ⟨rfl, rfl⟩)
  | lrem =>
    simp only [am_one] at h
    (repeat' split at h) <;> first | (cases h; done) | (cases h; exact ⟨rfl, rfl⟩)
  | lshl =>
    simp only [am_one] at h
    (repeat' split at h) <;> first | (cases h; done) | (cases h; exact ⟨rfl, rfl⟩) | (cases h; exact ⟨List.length_set, am_sz_set (by assumption) (by simp [am_cz])⟩)
  | lshr =>
    simp only [am_one] at h
    (repeat' split at h) <;> first | (cases h; done) | (cases h; exact ⟨rfl, rfl⟩) | (cases h; exact ⟨List.length_set, am_sz_set (by assumption) (by simp [am_cz])⟩)
  | lcmp =>
    simp only [am_one] at h
    (repeat' split at h) <;> first | (cases h; done) | (cases h; exact ⟨rfl, rfl⟩) | (cases h; exact ⟨List.length_set, am_sz_set (by assumption) (by simp [am_cz])⟩)
  | i2l =>
    simp only [am_one] at h
    (repeat' split at h) <;> first | (cases h; done) | (cases h; exact ⟨rfl, rfl⟩) | (cases h; exact ⟨List.length_set, am_sz_set (by assumption) (by simp [am_cz])⟩)
  | l2i =>
    simp only [am_one] at h
    (repeat' split at h) <;> first | (cases h; done) | (cases h; exact ⟨rfl, rfl⟩) | (cases h; exact ⟨List.length_set, am_sz_set (by assumption) (by simp [am_cz])⟩)
  | i2c =>
    simp only [am_one] at h
    (repeat' split at h) <;> first | (cases h; done) | (cases h; exact ⟨rfl, rfl⟩) | (cases h; exact ⟨List.length_set, am_sz_set (by assumption) (by simp [am_cz])⟩)
  | dup =>
    simp only [am_one] at h
    (repeat' split at h) <;> first | (cases h; done) | (cases h; exact ⟨rfl, rfl⟩) | (cases h; exact ⟨List.length_set, am_sz_set (by assumption) (by simp [am_cz])⟩)
  | pop =>
    simp only [am_one] at h
    (repeat' split at h) <;> first | (cases h; done) | (cases h; exact ⟨rfl, rfl⟩) | (cases h; exact ⟨List.length_set, am_sz_set (by assumption) (by simp [am_cz])⟩)
  | dup2 =>
    simp only [am_one] at h
    (repeat' split at h) <;> first | (cases h; done) | (cases h; exact ⟨rfl, rfl⟩) | (cases h; exact ⟨List.length_set, am_sz_set (by assumption) (by simp [am_cz])⟩)
  | ifCond cd off =>
    simp only [am_one] at h
    (repeat' split at h) <;> first | (cases h; done) | (cases h; exact ⟨rfl, rfl⟩) | (cases h; exact ⟨List.length_set, am_sz_set (by assumption) (by simp [am_cz])⟩)
  | if_icmp cd off =>
    simp only [am_one] at h
    (repeat' split at h) <;> first | (cases h; done) | (cases h; exact ⟨rfl, rfl⟩) | (cases h; exact ⟨List.length_set, am_sz_set (by assumption) (by simp [am_cz])⟩)
  | goto off =>
    simp only [am_one] at h
    (repeat' split at h) <;> first | (cases h; done) | (cases h; exact ⟨rfl, rfl⟩) | (cases h; exact ⟨List.length_set, am_sz_set (by assumption) (by simp [am_cz])⟩)
  | tableswitch dflt lo hi offs =>
    simp only [am_one] at h
    (repeat' split at h) <;> first | (cases h; done) | (cases h; exact ⟨rfl, rfl⟩) | (cases h; exact ⟨List.length_set, am_sz_set (by assumption) (by simp [am_cz])⟩)
  | lookupswitch dflt ps =>
    simp only [am_one] at h
    (repeat' split at h) <;> first | (cases h; done) | (cases h; exact ⟨rfl, rfl⟩) | (cases h; exact ⟨List.length_set, am_sz_set (by assumption) (by simp [am_cz])⟩)
  | getfield x =>
    simp only [am_one] at h
    (repeat' split at h) <;> first | (cases h; done) | (cases h; exact ⟨rfl, rfl⟩) | (cases h; exact ⟨List.length_set, am_sz_set (by assumption) (by simp [am_cz])⟩)
  | putfield x =>
    simp only [am_one] at h
    (repeat' split at h) <;> first | (cases h; done) | (cases h; exact ⟨rfl, rfl⟩) | (cases h; exact ⟨List.length_set, am_sz_set (by assumption) (by simp [am_cz])⟩)
  | getstatic x =>
    simp only [am_one] at h
    (repeat' split at h) <;> first | (cases h; done) | (cases h; exact ⟨rfl, rfl⟩) | (cases h; exact ⟨List.length_set, am_sz_set (by assumption) (by simp [am_cz])⟩)
  | ldc x =>
    simp only [am_one] at h
    (repeat' split at h) <;> first | (cases h; done) | (cases h; exact ⟨rfl, rfl⟩) | (cases h; exact ⟨List.length_set, am_sz_set (by assumption) (by simp [am_cz])⟩)
  | ldc_w x =>
    simp only [am_one] at h
    (repeat' split at h) <;> first | (cases h; done) | (cases h; exact ⟨rfl, rfl⟩) | (cases h; exact ⟨List.length_set, am_sz_set (by assumption) (by simp [am_cz])⟩)
  | ldc2_w x =>
    simp only [am_one] at h
    (repeat' split at h) <;> first | (cases h; done) | (cases h; exact ⟨rfl, rfl⟩) | (cases h; exact ⟨List.length_set, am_sz_set (by assumption) (by simp [am_cz])⟩)
  | iaload =>
    simp only [am_one] at h
    (repeat' split at h) <;> first | (cases h; done) | (cases h; exact ⟨rfl, rfl⟩) | (cases h; exact ⟨List.length_set, am_sz_set (by assumption) (by simp [am_cz])⟩)
  | laload =>
    simp only [am_one] at h
    (repeat' split at h) <;> first | (cases h; done) | (cases h; exact ⟨rfl, rfl⟩) | (cases h; exact ⟨List.length_set, am_sz_set (by assumption) (by simp [am_cz])⟩)
  | caload =>
    simp only [am_one] at h
    (repeat' split at h) <;> first | (cases h; done) | (cases h; exact ⟨rfl, rfl⟩) | (cases h; exact ⟨List.length_set, am_sz_set (by assumption) (by simp [am_cz])⟩)
  | aaload =>
    simp only [am_one] at h
    (repeat' split at h) <;> first | (cases h; done) | (cases h; exact ⟨rfl, rfl⟩) | (cases h; exact ⟨List.length_set, am_sz_set (by assumption) (by simp [am_cz])⟩)
  | baload =>
    simp only [am_one] at h
    (repeat' split at h) <;> first | (cases h; done) | (cases h; exact ⟨rfl, rfl⟩) | (cases h; exact ⟨List.length_set, am_sz_set (by assumption) (by simp [am_cz])⟩)
  | iastore =>
    simp only [am_one] at h
    (repeat' split at h) <;> first | (cases h; done) | (cases h; exact ⟨rfl, rfl⟩) | (cases h; exact ⟨List.length_set, am_sz_set (by assumption) (by simp [am_cz])⟩)
  | lastore =>
    simp only [am_one] at h
    (repeat' split at h) <;> first | (cases h; done) | (cases h; exact ⟨rfl, rfl⟩) | (cases h; exact ⟨List.length_set, am_sz_set (by assumption) (by simp [am_cz])⟩)
  | castore =>
    simp only [am_one] at h
    (repeat' split at h) <;> first | (cases h; done) | (cases h; exact ⟨rfl, rfl⟩) | (cases h; exact ⟨List.length_set, am_sz_set (by assumption) (by simp [am_cz])⟩)
  | arraylength =>
    simp only [am_one] at h
    (repeat' split at h) <;> first | (cases h; done) | (cases h; exact ⟨rfl, rfl⟩) | (cases h; exact ⟨List.length_set, am_sz_set (by assumption) (by simp [am_cz])⟩)
  | invokestatic x =>
    simp only [am_one] at h
    (repeat' split at h) <;> first | (cases h; done) | (cases h; exact ⟨rfl, rfl⟩) | (cases h; exact ⟨List.length_set, am_sz_set (by assumption) (by simp [am_cz])⟩)
  | invokespecial x =>
    simp only [am_one] at h
    (repeat' split at h) <;> first | (cases h; done) | (cases h; exact ⟨rfl, rfl⟩) | (cases h; exact ⟨List.length_set, am_sz_set (by assumption) (by simp [am_cz])⟩)
  | _ => simp [am_one] at h
/-- how large the heap is, told by the machine -/
theorem am_bd {H : Heap} {locs : List Loc} {cells slots : Nat} {g : JFrame} (k : H.size ≤ s.heap.size + cells → W p l e R s m args below meth c H locs cells slots Q g) : W p l e R s m args below meth c H locs cells slots Q g := fun T hT X => k (by rw [← hT]; exact X.heapSize) T hT X
theorem am_lo {hp : am_H} {H : Heap} {locs : List Loc} (hP : va_P D am_cl (am_w B ra cA hp) H) (hS : va_S (fun q => B ≤ q) s.heap H locs) (hB : s.heap.size = B + n0) (h0 : n0 ≤ hp.length) : B + hp.length ≤ H.size := by
  rcases Nat.lt_or_ge n0 hp.length with h | h
  · have hlt : hp.length - 1 < hp.length := by omega
    have h1 := (hP (hp.length - 1) _ (am_w_at (List.getElem?_eq_getElem hlt))).lt
    have h2 : B + (hp.length - 1) < H.size := h1
    omega
  · have := hS.1
    omega
/-- where a new cell lies -/
theorem am_qq {hp : am_H} {H1 : Heap} {q : Nat} {ex : va_E} (hP : va_P D am_cl (am_w B ra cA hp ++ [(q, ex)]) H1) (hD : va_D (fun q => B ≤ q) (am_w B ra cA hp ++ [(q, ex)])) (hz : H1.size ≤ B + (hp.length + 1)) : q = B + hp.length := by
  have hat : (am_w B ra cA hp ++ [(q, ex)])[hp.length]? = some (q, ex) := by
    rw [List.getElem?_append_right (by rw [am_w_len]; exact Nat.le_refl _), am_w_len, Nat.sub_self]
    rfl
  have h1 : q < H1.size := (hP _ _ hat).lt
  have h2 : B ≤ q := hD.2 _ _ hat
  rcases Nat.lt_or_ge (q - B) hp.length with h | h
  · have hk : (am_w B ra cA hp ++ [(q, ex)])[q - B]? = some (B + (q - B), am_e B ra cA hp[q - B]) := by
      rw [List.getElem?_append_left (by rw [am_w_len]; exact h)]
      exact am_w_at (List.getElem?_eq_getElem h)
    have := hD.1 _ _ _ _ hk hat (show B + (q - B) = q by omega)
    omega
  · omega
theorem am_dfl (B : Nat) (ra : Nat → Nat) (t : FieldType) : am_v B ra (defaultValue t) = defaultValue t := by cases t <;> rfl
set_option maxHeartbeats 4000000 in
theorem am_o_new (x : Nat) (F : am_Fr D B ra cA E n0 d M p R s m args meth c) {nn : Nat} {C C1 : am_C} (hdg0 : decode (am_cc M) C.1 = .ok (.new x, nn)) (hn : am_ln (.new x) = 0 ∨ nn = am_ln (.new x)) (h : am_mk M (.new x) C.1 C.2.1 C.2.2.1 C.2.2.2 = some C1) (hn1 : C1.2.2.2.length ≤ n1) (hz1 : am_sz C1.2.2.2 ≤ z1) (kk : am_AW D B ra cA n0 n1 z1 M p l e R s m args below meth c Q C1) : am_AW D B ra cA n0 n1 z1 M p l e R s m args below meth c Q C := by
  obtain ⟨pc, ls, st, hp⟩ := C
  intro H locs lsA cells slots hP hS hl hc hs hnn
  obtain ⟨hx, hb, hml, hown, hts, hK, hro, hr, hlk, hini, hB, hR1, hR2, hok, hR3, hR4⟩ := F
  obtain rfl : nn = 3 := hn.resolve_left (by simp [am_ln])
  have hdg : decode (am_cc M) pc = .ok (.new x, 3) := hdg0
  simp only [am_mk] at h
  split at h
  · next ci _ hpl =>
    split at h
    · next fs hfs =>
     split at h
     · next hsm =>
      cases h
      obtain ⟨h1, h2⟩ := am_pl_ok hpl
      simp only [am_sd] at h2
      cases hq : am_cl[ci]? with
      | none => rw [hq] at h2; cases h2
      | some q =>
        cases hty : am_cy[ci]? with
        | none => rw [hq, hty] at h2; cases h2
        | some ty =>
          simp only [am_ws, hq] at h1
          simp only [am_new, hq, hty] at hfs
          cases hfs
          obtain ⟨hpt, hnm, hlay⟩ := am_cl_ty _ q ty hq hty
          have hcz : am_cz (.inr (ci, (List.range q.2.2).map (fun j => defaultValue (ty j)))) = q.2.2 := by simp [am_cz]
          have hz1' : am_sz hp + q.2.2 ≤ z1 := by
            have := hz1
            simp only [am_sz_app] at this
            rw [show am_sz [Sum.inr (ci, (List.range q.2.2).map (fun j => defaultValue (ty j)))] = q.2.2 by simp [am_sz, am_cz]] at this
            exact this
          have hn1' : hp.length + 1 ≤ n1 := by simpa using hn1
          have hcl : cells + n0 = hp.length := hc
          have hsl : slots + z1 ≤ R.slots + am_sz hp := hs
          refine va_new (ci := ci) (C := q.1) (T := q.2.1) (N := q.2.2) (fs := (List.range q.2.2).map (fun j => defaultValue (ty j))) hx hb hts hlay ty hpt hown (hts _ (h1 _ (by simp))) (hts _ (h1 _ (by simp))) (hts _ (h1 _ (by simp))) hK hP am_w_D hS (fun z hz => by omega) hq (fun j hj => ?_) (by omega) (by omega) hdg (fun a H1 hP1 hD1 hS1 => ?_)
          · simp [vp_V, hj]
          · refine am_bd (fun hbd => ?_)
            have ha : a = B + hp.length := am_qq hP1 hD1 (by omega)
            subst ha
            have e1 : am_w B ra cA hp ++ [(B + hp.length, Sum.inr (ci, (List.range q.2.2).map (fun j => defaultValue (ty j))))] = am_w B ra cA (hp ++ [.inr (ci, (List.range q.2.2).map (fun j => defaultValue (ty j)))]) := by
              rw [am_w_push]
              show _ = _ ++ [(B + hp.length, Sum.inr (ci, ((List.range q.2.2).map (fun j => defaultValue (ty j))).map (am_v B ra)))]
              rw [List.map_map]
              congr 5
              apply List.map_congr_left
              intro j _
              exact (am_dfl B ra (ty j)).symm
            rw [e1] at hP1
            have kk2 := kk H1 locs lsA (cells + 1) (slots + q.2.2) hP1 hS1 hl (by show _ = (hp ++ [_]).length; rw [List.length_append, List.length_singleton]; omega) (by show _ ≤ R.slots + am_sz (hp ++ [_]); rw [am_sz_app, show am_sz [Sum.inr (ci, (List.range q.2.2).map (fun j => defaultValue (ty j)))] = q.2.2 by simp [am_sz, am_cz]]; omega) hnn
            rw [List.map_cons, am_v_lo hsm] at kk2
            exact kk2
     · cases h
    · cases h
  · cases h

set_option maxHeartbeats 4000000 in
theorem am_o_newa_int (F : am_Fr D B ra cA E n0 d M p R s m args meth c) {nn : Nat} {C C1 : am_C} (hdg0 : decode (am_cc M) C.1 = .ok (.newarray .int, nn)) (hn : am_ln (.newarray .int) = 0 ∨ nn = am_ln (.newarray .int)) (h : am_mk M (.newarray .int) C.1 C.2.1 C.2.2.1 C.2.2.2 = some C1) (hn1 : C1.2.2.2.length ≤ n1) (hz1 : am_sz C1.2.2.2 ≤ z1) (kk : am_AW D B ra cA n0 n1 z1 M p l e R s m args below meth c Q C1) : am_AW D B ra cA n0 n1 z1 M p l e R s m args below meth c Q C := by
  obtain ⟨pc, ls, st, hp⟩ := C
  intro H locs lsA cells slots hP hS hl hc hs hnn
  obtain ⟨hx, hb, hml, hown, hts, hK, hro, hr, hlk, hini, hB, hR1, hR2, hok, hR3, hR4⟩ := F
  obtain rfl : nn = 2 := hn.resolve_left (by simp [am_ln])
  have hdg : decode (am_cc M) pc = .ok (.newarray .int, 2) := hdg0
  simp only [am_mk] at h
  split at h
  · next n r =>
    split at h
    · next hcnd =>
      obtain ⟨hn0, hnl, hsm⟩ := hcnd
      simp only [am_na0] at h
      cases h
      have hn1' : hp.length + 1 ≤ n1 := by simpa using hn1
      have hz1' : am_sz hp + n.toNatClampNeg ≤ z1 := by
        have := hz1
        simp only [am_sz_app] at this
        rw [show am_sz [Sum.inl (0, n.toNatClampNeg, .inl (fun _ => 0))] = n.toNatClampNeg by simp [am_sz, am_cz]] at this
        exact this
      have hcl : cells + n0 = hp.length := hc
      have hsl : slots + z1 ≤ R.slots + am_sz hp := hs
      refine va_newa (atype := .int) (ty := .int) (N' := n.toNatClampNeg) (a0 := (n.toNatClampNeg, .inl (fun _ => 0))) hx hb (hts _ am_acI) rfl hK hP am_w_D hS (fun z hz => by omega) (fun _ => rfl) hn0 rfl (by show n.toNatClampNeg * 4 ≤ _; omega) (by omega) (by omega) hdg (fun a cN H1 hK1 hP1 hD1 hS1 => ?_)
      refine am_bd (fun hbd => ?_)
      have ha : a = B + hp.length := am_qq hP1 hD1 (by omega)
      subst ha
      have hcN : cN = cA 0 := by
        have g1 : s.vm.findClass ("[" ++ (FieldType.int).toString) = some cN := (hK1.2 4 (cN, .int) rfl).2
        have g2 : s.vm.findClass ("[" ++ (FieldType.int).toString) = some (cA 0) := (hK.2 0 (cA 0, .int) rfl).2
        exact Option.some.inj (g1.symm.trans g2)
      subst hcN
      have e1 : am_w B ra cA hp ++ [(B + hp.length, Sum.inl (cA 0, n.toNatClampNeg, .inl (fun _ => 0)))] = am_w B ra cA (hp ++ [.inl (0, n.toNatClampNeg, .inl (fun _ => 0))]) := by
        rw [am_w_push]
        rfl
      rw [e1] at hP1
      have kk2 := kk H1 locs lsA (cells + 1) (slots + n.toNatClampNeg) hP1 hS1 hl (by show _ = (hp ++ [_]).length; rw [List.length_append, List.length_singleton]; omega) (by show _ ≤ R.slots + am_sz (hp ++ [_]); rw [am_sz_app, show am_sz [Sum.inl (0, n.toNatClampNeg, .inl (fun _ => 0))] = n.toNatClampNeg by simp [am_sz, am_cz]]; omega) hnn
      rw [List.map_cons, am_v_lo hsm] at kk2
      exact kk2
    · cases h
  · cases h
set_option maxHeartbeats 4000000 in
theorem am_o_newa_long (F : am_Fr D B ra cA E n0 d M p R s m args meth c) {nn : Nat} {C C1 : am_C} (hdg0 : decode (am_cc M) C.1 = .ok (.newarray .long, nn)) (hn : am_ln (.newarray .long) = 0 ∨ nn = am_ln (.newarray .long)) (h : am_mk M (.newarray .long) C.1 C.2.1 C.2.2.1 C.2.2.2 = some C1) (hn1 : C1.2.2.2.length ≤ n1) (hz1 : am_sz C1.2.2.2 ≤ z1) (kk : am_AW D B ra cA n0 n1 z1 M p l e R s m args below meth c Q C1) : am_AW D B ra cA n0 n1 z1 M p l e R s m args below meth c Q C := by
  obtain ⟨pc, ls, st, hp⟩ := C
  intro H locs lsA cells slots hP hS hl hc hs hnn
  obtain ⟨hx, hb, hml, hown, hts, hK, hro, hr, hlk, hini, hB, hR1, hR2, hok, hR3, hR4⟩ := F
  obtain rfl : nn = 2 := hn.resolve_left (by simp [am_ln])
  have hdg : decode (am_cc M) pc = .ok (.newarray .long, 2) := hdg0
  simp only [am_mk] at h
  split at h
  · next n r =>
    split at h
    · next hcnd =>
      obtain ⟨hn0, hnl, hsm⟩ := hcnd
      simp only [am_na0] at h
      cases h
      have hn1' : hp.length + 1 ≤ n1 := by simpa using hn1
      have hz1' : am_sz hp + n.toNatClampNeg ≤ z1 := by
        have := hz1
        simp only [am_sz_app] at this
        rw [show am_sz [Sum.inl (1, n.toNatClampNeg, .inr (.inl (fun _ => 0)))] = n.toNatClampNeg by simp [am_sz, am_cz]] at this
        exact this
      have hcl : cells + n0 = hp.length := hc
      have hsl : slots + z1 ≤ R.slots + am_sz hp := hs
      refine va_newa (atype := .long) (ty := .long) (N' := n.toNatClampNeg) (a0 := (n.toNatClampNeg, .inr (.inl (fun _ => 0)))) hx hb (hts _ am_acJ) rfl hK hP am_w_D hS (fun z hz => by omega) (fun _ => rfl) hn0 rfl (by show n.toNatClampNeg * 8 ≤ _; omega) (by omega) (by omega) hdg (fun a cN H1 hK1 hP1 hD1 hS1 => ?_)
      refine am_bd (fun hbd => ?_)
      have ha : a = B + hp.length := am_qq hP1 hD1 (by omega)
      subst ha
      have hcN : cN = cA 1 := by
        have g1 : s.vm.findClass ("[" ++ (FieldType.long).toString) = some cN := (hK1.2 4 (cN, .long) rfl).2
        have g2 : s.vm.findClass ("[" ++ (FieldType.long).toString) = some (cA 1) := (hK.2 1 (cA 1, .long) rfl).2
        exact Option.some.inj (g1.symm.trans g2)
      subst hcN
      have e1 : am_w B ra cA hp ++ [(B + hp.length, Sum.inl (cA 1, n.toNatClampNeg, .inr (.inl (fun _ => 0))))] = am_w B ra cA (hp ++ [.inl (1, n.toNatClampNeg, .inr (.inl (fun _ => 0)))]) := by
        rw [am_w_push]
        rfl
      rw [e1] at hP1
      have kk2 := kk H1 locs lsA (cells + 1) (slots + n.toNatClampNeg) hP1 hS1 hl (by show _ = (hp ++ [_]).length; rw [List.length_append, List.length_singleton]; omega) (by show _ ≤ R.slots + am_sz (hp ++ [_]); rw [am_sz_app, show am_sz [Sum.inl (1, n.toNatClampNeg, .inr (.inl (fun _ => 0)))] = n.toNatClampNeg by simp [am_sz, am_cz]]; omega) hnn
      rw [List.map_cons, am_v_lo hsm] at kk2
      exact kk2
    · cases h
  · cases h
set_option maxHeartbeats 4000000 in
theorem am_o_newa_char (F : am_Fr D B ra cA E n0 d M p R s m args meth c) {nn : Nat} {C C1 : am_C} (hdg0 : decode (am_cc M) C.1 = .ok (.newarray .char, nn)) (hn : am_ln (.newarray .char) = 0 ∨ nn = am_ln (.newarray .char)) (h : am_mk M (.newarray .char) C.1 C.2.1 C.2.2.1 C.2.2.2 = some C1) (hn1 : C1.2.2.2.length ≤ n1) (hz1 : am_sz C1.2.2.2 ≤ z1) (kk : am_AW D B ra cA n0 n1 z1 M p l e R s m args below meth c Q C1) : am_AW D B ra cA n0 n1 z1 M p l e R s m args below meth c Q C := by
  obtain ⟨pc, ls, st, hp⟩ := C
  intro H locs lsA cells slots hP hS hl hc hs hnn
  obtain ⟨hx, hb, hml, hown, hts, hK, hro, hr, hlk, hini, hB, hR1, hR2, hok, hR3, hR4⟩ := F
  obtain rfl : nn = 2 := hn.resolve_left (by simp [am_ln])
  have hdg : decode (am_cc M) pc = .ok (.newarray .char, 2) := hdg0
  simp only [am_mk] at h
  split at h
  · next n r =>
    split at h
    · next hcnd =>
      obtain ⟨hn0, hnl, hsm⟩ := hcnd
      simp only [am_na0] at h
      cases h
      have hn1' : hp.length + 1 ≤ n1 := by simpa using hn1
      have hz1' : am_sz hp + n.toNatClampNeg ≤ z1 := by
        have := hz1
        simp only [am_sz_app] at this
        rw [show am_sz [Sum.inl (2, n.toNatClampNeg, .inl (fun _ => 0))] = n.toNatClampNeg by simp [am_sz, am_cz]] at this
        exact this
      have hcl : cells + n0 = hp.length := hc
      have hsl : slots + z1 ≤ R.slots + am_sz hp := hs
      refine va_newa (atype := .char) (ty := .char) (N' := n.toNatClampNeg) (a0 := (n.toNatClampNeg, .inl (fun _ => 0))) hx hb (hts _ am_acC) rfl hK hP am_w_D hS (fun z hz => by omega) (fun _ => rfl) hn0 rfl (by show n.toNatClampNeg * 2 ≤ _; omega) (by omega) (by omega) hdg (fun a cN H1 hK1 hP1 hD1 hS1 => ?_)
      refine am_bd (fun hbd => ?_)
      have ha : a = B + hp.length := am_qq hP1 hD1 (by omega)
      subst ha
      have hcN : cN = cA 2 := by
        have g1 : s.vm.findClass ("[" ++ (FieldType.char).toString) = some cN := (hK1.2 4 (cN, .char) rfl).2
        have g2 : s.vm.findClass ("[" ++ (FieldType.char).toString) = some (cA 2) := (hK.2 2 (cA 2, .char) rfl).2
        exact Option.some.inj (g1.symm.trans g2)
      subst hcN
      have e1 : am_w B ra cA hp ++ [(B + hp.length, Sum.inl (cA 2, n.toNatClampNeg, .inl (fun _ => 0)))] = am_w B ra cA (hp ++ [.inl (2, n.toNatClampNeg, .inl (fun _ => 0))]) := by
        rw [am_w_push]
        rfl
      rw [e1] at hP1
      have kk2 := kk H1 locs lsA (cells + 1) (slots + n.toNatClampNeg) hP1 hS1 hl (by show _ = (hp ++ [_]).length; rw [List.length_append, List.length_singleton]; omega) (by show _ ≤ R.slots + am_sz (hp ++ [_]); rw [am_sz_app, show am_sz [Sum.inl (2, n.toNatClampNeg, .inl (fun _ => 0))] = n.toNatClampNeg by simp [am_sz, am_cz]]; omega) hnn
      rw [List.map_cons, am_v_lo hsm] at kk2
      exact kk2
    · cases h
  · cases h
end AMQ
