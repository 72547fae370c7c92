/-! what a state of part 03's machine is on the claim's machine: cell k lies at B + k; a reference from 1000000 on is one of the cells that were there before -/
def am_ad (B : Nat) (ra : Nat → Nat) (k : Nat) : Nat := if k < 1000000 then B + k else ra k
def am_v (B : Nat) (ra : Nat → Nat) (v : Value) : Value := match v with
  | .ref k => .ref (am_ad B ra k)
  | .int x => .int x
  | .long x => .long x
  | .float x => .float x
  | .double x => .double x
  | .null => .null
  | .retAddr x => .retAddr x
theorem am_v_cat (B : Nat) (ra : Nat → Nat) (v : Value) : (am_v B ra v).category = v.category := by cases v <;> rfl
theorem am_v_lo {B : Nat} {ra : Nat → Nat} {k : Nat} (h : k < 1000000) : am_v B ra (.ref k) = .ref (B + k) := by
  show Value.ref (am_ad B ra k) = _
  rw [am_ad, if_pos h]
theorem am_v_hi {B : Nat} {ra : Nat → Nat} {k : Nat} (h : ¬ k < 1000000) : am_v B ra (.ref k) = .ref (ra k) := by
  show Value.ref (am_ad B ra k) = _
  rw [am_ad, if_neg h]
theorem am_cats (B : Nat) (ra : Nat → Nat) (st : List Value) : ((st.map (am_v B ra)).map fun v => v.category) = st.map fun v => v.category := by
  rw [List.map_map]
  exact List.map_congr_left (fun v _ => am_v_cat B ra v)
def am_e (B : Nat) (ra : Nat → Nat) (cA : Nat → ClassId) (E : va_E) : va_E := match E with
  | .inl (t, n, .inl f) => .inl (cA t, n, .inl f)
  | .inl (t, n, .inr (.inl f)) => .inl (cA t, n, .inr (.inl f))
  | .inl (t, n, .inr (.inr (.inl f))) => .inl (cA t, n, .inr (.inr (.inl f)))
  | .inl (t, n, .inr (.inr (.inr (.inl f)))) => .inl (cA t, n, .inr (.inr (.inr (.inl f))))
  | .inl (t, n, .inr (.inr (.inr (.inr f)))) => .inl (cA t, n, .inr (.inr (.inr (.inr (fun i => (f i).map (am_ad B ra))))))
  | .inr (ci, fs) => .inr (ci, fs.map (am_v B ra))
def am_w (B : Nat) (ra : Nat → Nat) (cA : Nat → ClassId) (hp : am_H) : va_W := hp.mapIdx (fun k E => (B + k, am_e B ra cA E))
section AMW
variable {B : Nat} {ra : Nat → Nat} {cA : Nat → ClassId} {hp : am_H}
theorem am_w_get (k : Nat) : (am_w B ra cA hp)[k]? = (hp[k]?).map (fun E => (B + k, am_e B ra cA E)) := by
  unfold am_w
  rw [List.getElem?_mapIdx]
theorem am_w_at {k : Nat} {E : va_E} (h : hp[k]? = some E) : (am_w B ra cA hp)[k]? = some (B + k, am_e B ra cA E) := by
  rw [am_w_get, h]
  rfl
theorem am_w_len : (am_w B ra cA hp).length = hp.length := by simp [am_w]
theorem am_w_set (k : Nat) (E : va_E) : (am_w B ra cA hp).set k (B + k, am_e B ra cA E) = am_w B ra cA (hp.set k E) := by
  apply List.ext_getElem?
  intro i
  rw [am_w_get, List.getElem?_set, List.getElem?_set, am_w_get, am_w_len]
  by_cases h : k = i
  · subst h
    by_cases h2 : k < hp.length
    · simp [h2]
    · simp [h2]
  · simp [h]
theorem am_w_app (l : am_H) : am_w B ra cA (hp ++ l) = am_w B ra cA hp ++ l.mapIdx (fun k E => (B + (hp.length + k), am_e B ra cA E)) := by
  unfold am_w
  rw [List.mapIdx_append]
  congr 1
  congr 1
  funext k E
  rw [Nat.add_comm k]
theorem am_w_push (E : va_E) : am_w B ra cA (hp ++ [E]) = am_w B ra cA hp ++ [(B + hp.length, am_e B ra cA E)] := by
  rw [am_w_app]
  rfl
theorem am_w_D : va_D (fun q => B ≤ q) (am_w B ra cA hp) := by
  refine ⟨fun i j x y hx hy e => ?_, fun k q h => ?_⟩
  · rw [am_w_get] at hx hy
    cases h1 : hp[i]? with
    | none => rw [h1] at hx; cases hx
    | some a =>
      cases h2 : hp[j]? with
      | none => rw [h2] at hy; cases hy
      | some b =>
        rw [h1] at hx
        rw [h2] at hy
        cases hx
        cases hy
        have e2 : B + i = B + j := e
        omega
  · rw [am_w_get] at h
    cases h1 : hp[k]? with
    | none => rw [h1] at h; cases h
    | some a =>
      rw [h1] at h
      cases h
      exact Nat.le_add_right B k
end AMW
def am_q (B : Nat) (ra : Nat → Nat) (ls : am_L) : List (Nat × Value) := ls.map (fun q => (q.1, am_v B ra q.2))
theorem am_ld_mem {i : Nat} {v : Value} : ∀ {ls : am_L}, am_ld i ls = some v → (i, v) ∈ ls
  | [], h => by cases h
  | (j, w) :: t, h => by
    unfold am_ld at h
    by_cases e : j = i
    · rw [if_pos e] at h
      cases h
      rw [e]
      exact List.mem_cons_self
    · rw [if_neg e] at h
      exact List.mem_cons_of_mem _ (am_ld_mem h)
theorem am_ld_at {B : Nat} {ra : Nat → Nat} {i nL : Nat} {v : Value} {ls : am_L} {lsA : Array Slot} (hl : lv_has lsA nL (am_q B ra ls)) (h : am_ld i ls = some v) : lsA[i]? = some (.val (am_v B ra v)) :=
  hl.2.2 (i, am_v B ra v) (List.mem_map.mpr ⟨(i, v), am_ld_mem h, rfl⟩)
theorem am_ld_ix {B : Nat} {ra : Nat → Nat} {i : Nat} {v : Value} {ls : am_L} (h : am_ld i ls = some v) : ∃ k : Nat, (am_q B ra ls)[k]? = some (i, am_v B ra v) :=
  List.mem_iff_getElem?.mp (List.mem_map.mpr ⟨(i, v), am_ld_mem h, rfl⟩)
theorem am_q_s1 (B : Nat) (ra : Nat → Nat) (i : Nat) (v : Value) (ls : am_L) : (i, am_v B ra v) :: (am_q B ra ls).filter (fun q => !(q.1 == i) && !(q.1 + 1 == i && q.2.category == 2)) = am_q B ra (am_s1 i v ls) := by
  unfold am_q am_s1
  rw [List.map_cons, List.filter_map]
  congr 2
  apply List.filter_congr
  intro q _
  simp [am_v_cat]
theorem am_q_s2 (B : Nat) (ra : Nat → Nat) (i : Nat) (v : Value) (ls : am_L) : (i, am_v B ra v) :: (am_q B ra ls).filter (fun q => !(q.1 == i) && (!(q.1 == i + 1) && !(q.1 + 1 == i && q.2.category == 2))) = am_q B ra (am_s2 i v ls) := by
  unfold am_q am_s2
  rw [List.map_cons, List.filter_map]
  congr 2
  apply List.filter_congr
  intro q _
  simp [am_v_cat]
theorem am_q_args (B : Nat) (ra : Nat → Nat) : ∀ (as : List Value) (i : Nat), lv_args i (as.map (am_v B ra)) = am_q B ra (lv_args i as)
  | [], _ => rfl
  | v :: t, i => by
    show (i, am_v B ra v) :: lv_args (if (am_v B ra v).category = 2 then i + 2 else i + 1) (t.map (am_v B ra)) = (i, am_v B ra v) :: am_q B ra (lv_args (if v.category = 2 then i + 2 else i + 1) t)
    rw [am_v_cat, am_q_args B ra t]
theorem am_sl_len (B : Nat) (ra : Nat → Nat) : ∀ (as : List Value), (lg_sl (as.map (am_v B ra))).length = (lg_sl as).length
  | [] => rfl
  | v :: t => by
    have ih := am_sl_len B ra t
    unfold lg_sl at ih ⊢
    simp only [List.map_cons, List.flatMap_cons, List.length_append, am_v_cat, ih]
    congr 1
    by_cases h : v.category = 2
    · simp [h]
    · simp [h]
theorem am_to_ok {pc : Nat} {off : Int} {t : Nat} (h : am_to pc off = some t) : (pc : Int) + off = (t : Int) := by
  unfold am_to at h
  by_cases h0 : 0 ≤ (pc : Int) + off
  · rw [if_pos h0] at h
    cases h
    omega
  · rw [if_neg h0] at h
    cases h
theorem am_in_ok {j : Int32} {n : Nat} (h : am_in j n = true) : vp_in j n := of_decide_eq_true (p := ¬ (j < 0 ∨ n ≤ j.toNatClampNeg)) h
def am_tys (cA : Nat → ClassId) : List (ClassId × FieldType) := [(cA 0, .int), (cA 1, .long), (cA 2, .char), (cA 3, .array .int)]
/-- how many slots a cell has -/
def am_cz (E : va_E) : Nat := match E with
  | .inl (_, n, _) => n
  | .inr (_, fs) => fs.length
def am_sz (hp : am_H) : Nat := (hp.map am_cz).sum
theorem am_sz_app (a b : am_H) : am_sz (a ++ b) = am_sz a + am_sz b := by simp [am_sz]
theorem am_sz_set {E F : va_E} : ∀ {hp : am_H} {k : Nat}, hp[k]? = some E → am_cz F = am_cz E → am_sz (hp.set k F) = am_sz hp
  | [], k, h, _ => by simp at h
  | a :: t, 0, h, e => by
    cases h
    simp [am_sz, e]
  | a :: t, k + 1, h, e => by
    have h1 : t[k]? = some E := by simpa using h
    have := am_sz_set h1 e
    unfold am_sz at this ⊢
    rw [List.set_cons_succ, List.map_cons, List.sum_cons, List.map_cons, List.sum_cons, this]
/-- int[][] is there -/
def am_AO (U : State) : Prop := ∃ (comp c : ClassId) (k : Class), U.vm.findClass (FieldType.array .int).toString = some comp ∧ U.vm.classes[c]? = some k ∧ k.kind = .array comp (.array .int) ∧ U.vm.findClass ("[" ++ (FieldType.array .int).toString) = some c
theorem am_AO.moved {u U : State} (hvm : u.vm.Alike U.vm) (h : am_AO u) : am_AO U := by
  obtain ⟨comp, c, k, h1, h2, h3, h4⟩ := h
  obtain ⟨k', hk', he⟩ := hvm.2.2 _ _ h2
  exact ⟨comp, c, k', by rw [hvm.findClass]; exact h1, hk', by rw [he]; exact h3, by rw [hvm.findClass]; exact h4⟩
/-- what is there beside the cells that the program makes, and stays -/
def am_RO (B : Nat) (ra : Nat → Nat) (E : am_Env) (U : State) : Prop :=
  (∀ (k : Nat) (r : Nat × Nat × (Nat → Int32)), E k = some r → (r.1 = 0 ∧ va_T .int (ra k) r.2.1 (fun j => .int (r.2.2 j)) (fun q => B ≤ q) U U.heap) ∨ (r.1 = 4 ∧ va_T .byte (ra k) r.2.1 (fun j => .int (r.2.2 j)) (fun q => B ≤ q) U U.heap)) ∧
  (∀ i : Nat, i < am_lit.length → va_O "java/lang/String" (ra (1000000 + 2 * i)) (fun q => B ≤ q) U U.heap ∧ va_OF "java/lang/String" "coder" "B" (.int 0) (ra (1000000 + 2 * i)) (fun q => B ≤ q) U U.heap ∧ va_OF "java/lang/String" "value" "[B" (.ref (ra (1000000 + 2 * i + 1))) (ra (1000000 + 2 * i)) (fun q => B ≤ q) U U.heap) ∧
  (∀ (i : Nat) (r : String × Nat × String × List Int32), am_lit[i]? = some r → vk_R r.1 r.2.1 r.2.2.1 (ra (1000000 + 2 * i)) U) ∧
  va_Z "java/lang/String" "COMPACT_STRINGS" "Z" (.int 1) (fun q => B ≤ q) U U.heap ∧ (va_Z "LockOrchestra" "MOST_OF_KIND" "[I" (.ref (ra 2000000)) (fun q => B ≤ q) U U.heap ∧ va_Z "jdk/internal/util/Preconditions" "SIOOBE_FORMATTER" "Ljava/util/function/BiFunction;" (if (E 2000002).isSome = true then .ref (ra 2000003) else .null) (fun q => B ≤ q) U U.heap) ∧
  (∀ q ∈ am_ns0, va_Nw (.methodLinkNest q.1 q.2.1 q.2.2.1 q.2.2.2) U) ∧ va_Nw (.fieldLinkNest "LockOrchestra$Hall" 91 "LockOrchestra" "MOST_OF_KIND" "[I" "LockOrchestra") U ∧ am_AO U
theorem am_RO.on {B : Nat} {ra : Nat → Nat} {E : am_Env} {s U : State} (h : am_RO B ra E s) (hW : s.WarmedH U.vm) (hk : ∀ q : Nat, q < s.heap.size → ¬ B ≤ q → U.heap[q]? = s.heap[q]?) : am_RO B ra E U := by
  obtain ⟨h1, h2, h3, h4, h5, h6, h7, h8⟩ := h
  refine ⟨fun k r hr => ?_, fun i hi => ⟨(va_O.moved hW.alike (h2 i hi).1).kept hk, (va_OF.moved hW.alike (h2 i hi).2.1).kept hk, (va_OF.moved hW.alike (h2 i hi).2.2).kept hk⟩, fun i r hr => (h3 i r hr).warm hW, (va_Z.moved hW.alike h4).kept hk, ⟨(va_Z.moved hW.alike h5.1).kept hk, (va_Z.moved hW.alike h5.2).kept hk⟩, fun q hq => va_Nw.warmM hW (h6 q hq), va_Nw.warmF hW h7, am_AO.moved hW.alike h8⟩
  rcases h1 k r hr with ⟨e, h⟩ | ⟨e, h⟩
  · exact Or.inl ⟨e, (va_T.moved hW.alike h).kept hk⟩
  · exact Or.inr ⟨e, (va_T.moved hW.alike h).kept hk⟩
/-- a method's frame: what is known at its entry s, and stays -/
def am_Fr (D : va_G) (B : Nat) (ra : Nat → Nat) (cA : Nat → ClassId) (E : am_Env) (n0 d : Nat) (M : am_M) (p : Program) (R : Room) (s : State) (m : MethodId) (args : Array Value) (meth : Method) (c : Code) : Prop :=
  p.tables.exec = Jvm.exec ∧ c.code = am_cc M ∧ c.maxLocals = am_ml M ∧ s.vm.findClass (am_n (am_o M)) = some m.cls ∧ (∀ w ∈ am_G, w.before args s = true) ∧ va_K D am_cl (am_tys cA) s ∧ am_RO B ra E s ∧ meth.sig.returnType = am_rt M ∧ meth.locks = false ∧ (am_ini M = true → meth.name = "<init>") ∧ s.heap.size = B + n0 ∧ d + 1 ≤ R.frames ∧ 40 * d + 60 ≤ R.locals ∧ am_okD M = true ∧ 1 ≤ R.frames ∧ 60 ≤ R.locals
/-- from that state of the machine of part 03 the claim's machine comes to Q; n1, z1: how many cells and slots there are in the end -/
def am_AW (D : va_G) (B : Nat) (ra : Nat → Nat) (cA : Nat → ClassId) (n0 n1 z1 : Nat) (M : am_M) (p : Program) (l : Launch) (e : Env) (R : Room) (s : State) (m : MethodId) (args : Array Value) (below : List Frame) (meth : Method) (c : Code) (Q : State → Prop) (C : am_C) : Prop :=
  ∀ (H : Heap) (locs : List Loc) (lsA : Array Slot) (cells slots : Nat), va_P D am_cl (am_w B ra cA C.2.2.2) H → va_S (fun q => B ≤ q) s.heap H locs → lv_has lsA (am_ml M) (am_q B ra C.2.1) → cells + n0 = C.2.2.2.length → slots + z1 ≤ R.slots + am_sz C.2.2.2 → n1 ≤ R.cells + n0 → W p l e R s m args below meth c H locs cells slots Q (F0 m C.1 lsA (C.2.2.1.map (am_v B ra)))
