/-! THE CLAIM OUT OF ONE WALK OF THE LAW'S BODY. Your part is whole_start (and what it stands on); all else here is the same for every law, but numbers. -/
def R_law : String := "LockOrchestraLaw"
def lw_P (b : Addr) (xs : List Int32) (args : Array Value) (s : State) : Prop := args = #[.ref b] ∧ s.IntsAt b xs ∧ xs.length ≤ 3072 ∧ (Jvm.Cond.and given_1 narrow_1).before args s = true
def lw_Q (_ : Array Value) (s : State) (o : Outcome) (t : State) : Prop := o = .returned (some (.int 1)) ∧ Framed s o t [] 600000 7302249
def lw_Z (below : List Frame) (a : Array Value) (s : State) : State → Prop := fun t => ∃ o, t.status = .running ∧ Ended t below o ∧ lw_Q a s o t
/-- the law's own end, with 1 on the stack, nothing written that was there before, its room as the claim has it -/
theorem lw_ret {p : Program} {l : Launch} {e : Env} {s : State} {m : MethodId} {below : List Frame} {meth : Method} {c : Code} {b : Nat} (hx : p.tables.exec = Jvm.exec) (hb : c.code = code) (hr : meth.sig.returnType = ret) (hlocks : meth.locks = false) {pc : Nat} {H : Heap} {ls : Array Slot} (hdg : decode code pc = .ok (.ireturn, 1)) : W p l e room_1 s m #[Value.ref b] below meth c H [] 600000 7302249 (lw_Z below #[Value.ref b] s) (F0 m pc ls [.int 1]) := by
  intro T hT X
  obtain ⟨fs, hret, hrun, hended, hW, hframe⟩ := X.leave (v := some (.int 1)) (hlocks := hlocks) (fun h => by rw [hr] at h; cases h)
  have hmeth' : T.vm.method? m = some meth := X.method'
  refine ⟨T.setFrames fs, ?_, .returned (some (.int 1)), hrun, hended, rfl, ⟨_, rfl⟩, hW, hframe⟩
  jvm_step X.here [X.here.top, hx, hb, hdg, hmeth', hr, ret, narrow_b1]
  (try refine ⟨rfl, ?_⟩); (try refine ⟨rfl, ?_⟩)
  first | (intro acts; rw [hret _ acts rfl rfl rfl]) | rw [hret _ _ rfl rfl rfl]
  exact Steps.refl _
/-- what holds at the law's entry: the machine, the code, the tables' words (any of lw_tbl by 'hts w (by decide +kernel)'), the script of L ints xs at the cell b, what the Statement gives of the start (any of its parts by flat_of_before) -/
def lw_At (p : Program) (s : State) (m : MethodId) (meth : Method) (c : Code) (b L : Nat) (xs : Nat → Int32) : Prop :=
  p.tables.exec = Jvm.exec ∧ c.code = code ∧ meth.sig.returnType = ret ∧ c.maxLocals = 4 ∧ s.vm.findClass R_law = some m.cls ∧ (∀ w ∈ lw_tbl, w.before #[Value.ref b] s = true) ∧ va_X b L xs s s.heap ∧ b < s.heap.size ∧ meth.locks = false ∧ (Jvm.Cond.and given_1 narrow_1).before #[Value.ref b] s = true
/-! the law's start: what the Statement gives, in the words of part 06 -/
def am_E (L : Nat) (xs : Nat → Int32) (bz : Bool) : am_Env := fun k => if k = 2000002 then (if bz = true then some (0, L, xs) else none) else if k = 2000001 then some (0, L, xs) else if k = 2000000 then some (0, 4, fun j => ([4, 6, 6, 5] : List Int32).getD j 0) else if 1000000 ≤ k ∧ (k - 1000000) % 2 = 1 then (am_lit[(k - 1000000) / 2]?).map (fun r => (4, r.2.2.2.length, fun j => r.2.2.2.getD j 0)) else none
def am_flat : List Cond := flatC (Jvm.Cond.and given_1 narrow_1)
def am_tv (own : String) (x : Nat) : Term := .field (.string own x) "java/lang/String" "value" "[B"
def am_lc (own : String) (x : Nat) (bs : List Int32) : List Cond := [.exactly (.string own x) "java/lang/String", .eq (.field (.string own x) "java/lang/String" "coder" "B") (.int 0), .arrayOf (am_tv own x) .byte, .eq (.length (am_tv own x)) (.int (Int32.ofNat bs.length))] ++ (List.range bs.length).map (fun j => .eq (.elem (am_tv own x) (.int (Int32.ofNat j))) (.int (bs.getD j 0)))
def am_lk1 (r : String × Nat × String × List Int32) : Bool := (am_lc r.1 r.2.1 r.2.2.2).all (fun w => decide (w ∈ am_flat)) && decide (r.2.2.2.length < 2 ^ 31) && decide (Cond.stringRef r.1 r.2.1 r.2.2.1 ∈ tables_1)
theorem am_lt0 : am_lk1 ("LockOrchestra$HallReader", 38, "lock", [108, 111, 99, 107]) = true := by decide +kernel
theorem am_lt1 : am_lk1 ("LockOrchestra$Words", 62, " lock wards at jams note turns door opens player plays rust ward stuck number or and not all min max ", [32, 108, 111, 99, 107, 32, 119, 97, 114, 100, 115, 32, 97, 116, 32, 106, 97, 109, 115, 32, 110, 111, 116, 101, 32, 116, 117, 114, 110, 115, 32, 100, 111, 111, 114, 32, 111, 112, 101, 110, 115, 32, 112, 108, 97, 121, 101, 114, 32, 112, 108, 97, 121, 115, 32, 114, 117, 115, 116, 32, 119, 97, 114, 100, 32, 115, 116, 117, 99, 107, 32, 110, 117, 109, 98, 101, 114, 32, 111, 114, 32, 97, 110, 100, 32, 110, 111, 116, 32, 97, 108, 108, 32, 109, 105, 110, 32, 109, 97, 120, 32]) = true := by decide +kernel
theorem am_lt2 : am_lk1 ("LockOrchestra$HallReader", 111, "wards", [119, 97, 114, 100, 115]) = true := by decide +kernel
theorem am_lt3 : am_lk1 ("LockOrchestra$HallReader", 113, "at", [97, 116]) = true := by decide +kernel
theorem am_lt4 : am_lk1 ("LockOrchestra$HallReader", 115, "jams", [106, 97, 109, 115]) = true := by decide +kernel
theorem am_lt5 : am_lk1 ("LockOrchestra$HallReader", 48, "note", [110, 111, 116, 101]) = true := by decide +kernel
theorem am_lt6 : am_lk1 ("LockOrchestra$HallReader", 124, "turns", [116, 117, 114, 110, 115]) = true := by decide +kernel
theorem am_lt7 : am_lk1 ("LockOrchestra$HallReader", 53, "door", [100, 111, 111, 114]) = true := by decide +kernel
theorem am_lt8 : am_lk1 ("LockOrchestra$HallReader", 137, "opens", [111, 112, 101, 110, 115]) = true := by decide +kernel
theorem am_lt9 : am_lk1 ("LockOrchestra$TestReader", 42, "not", [110, 111, 116]) = true := by decide +kernel
theorem am_lt10 : am_lk1 ("LockOrchestra$TestReader", 62, "all", [97, 108, 108]) = true := by decide +kernel
theorem am_lt11 : am_lk1 ("LockOrchestra$TestReader", 89, "min", [109, 105, 110]) = true := by decide +kernel
theorem am_lt12 : am_lk1 ("LockOrchestra$TestReader", 95, "max", [109, 97, 120]) = true := by decide +kernel
theorem am_lt13 : am_lk1 ("LockOrchestra$TestReader", 97, "at", [97, 116]) = true := by decide +kernel
theorem am_lt14 : am_lk1 ("LockOrchestra$TestReader", 102, "turns", [116, 117, 114, 110, 115]) = true := by decide +kernel
theorem am_lt15 : am_lk1 ("LockOrchestra$TestReader", 113, "jams", [106, 97, 109, 115]) = true := by decide +kernel
theorem am_lt16 : am_lk1 ("LockOrchestra$TestReader", 115, "number", [110, 117, 109, 98, 101, 114]) = true := by decide +kernel
theorem am_lt17 : am_lk1 ("LockOrchestra$TestReader", 117, "wards", [119, 97, 114, 100, 115]) = true := by decide +kernel
theorem am_lt18 : am_lk1 ("LockOrchestra$TestReader", 119, "ward", [119, 97, 114, 100]) = true := by decide +kernel
theorem am_lt19 : am_lk1 ("LockOrchestra$TestReader", 121, "stuck", [115, 116, 117, 99, 107]) = true := by decide +kernel
theorem am_lt20 : am_lk1 ("LockOrchestra$TestReader", 40, "and", [97, 110, 100]) = true := by decide +kernel
theorem am_lt21 : am_lk1 ("LockOrchestra$TestReader", 23, "or", [111, 114]) = true := by decide +kernel
theorem am_lt22 : am_lk1 ("LockOrchestra$HallReader", 58, "player", [112, 108, 97, 121, 101, 114]) = true := by decide +kernel
theorem am_lt23 : am_lk1 ("LockOrchestra$HallReader", 155, "plays", [112, 108, 97, 121, 115]) = true := by decide +kernel
theorem am_lt24 : am_lk1 ("LockOrchestra$HallReader", 63, "rust", [114, 117, 115, 116]) = true := by decide +kernel
theorem am_lt25 : am_lk1 ("LockOrchestra$Question", 65, "first", [102, 105, 114, 115, 116]) = true := by decide +kernel
theorem am_lt26 : am_lk1 ("LockOrchestra$Question", 71, "last", [108, 97, 115, 116]) = true := by decide +kernel
theorem am_lt27 : am_lk1 ("LockOrchestra$Question", 73, "often", [111, 102, 116, 101, 110]) = true := by decide +kernel
theorem am_lt28 : am_lk1 ("LockOrchestra$Question", 75, "total", [116, 111, 116, 97, 108]) = true := by decide +kernel
theorem am_lt29 : am_lk1 ("LockOrchestra$Question", 77, "most", [109, 111, 115, 116]) = true := by decide +kernel
theorem am_lt30 : am_lk1 ("LockOrchestra$Question", 79, "least", [108, 101, 97, 115, 116]) = true := by decide +kernel
theorem am_lit_ok : ∀ r ∈ am_lit, am_lk1 r = true := (List.forall_mem_cons.mpr ⟨am_lt0, (List.forall_mem_cons.mpr ⟨am_lt1, (List.forall_mem_cons.mpr ⟨am_lt2, (List.forall_mem_cons.mpr ⟨am_lt3, (List.forall_mem_cons.mpr ⟨am_lt4, (List.forall_mem_cons.mpr ⟨am_lt5, (List.forall_mem_cons.mpr ⟨am_lt6, (List.forall_mem_cons.mpr ⟨am_lt7, (List.forall_mem_cons.mpr ⟨am_lt8, (List.forall_mem_cons.mpr ⟨am_lt9, (List.forall_mem_cons.mpr ⟨am_lt10, (List.forall_mem_cons.mpr ⟨am_lt11, (List.forall_mem_cons.mpr ⟨am_lt12, (List.forall_mem_cons.mpr ⟨am_lt13, (List.forall_mem_cons.mpr ⟨am_lt14, (List.forall_mem_cons.mpr ⟨am_lt15, (List.forall_mem_cons.mpr ⟨am_lt16, (List.forall_mem_cons.mpr ⟨am_lt17, (List.forall_mem_cons.mpr ⟨am_lt18, (List.forall_mem_cons.mpr ⟨am_lt19, (List.forall_mem_cons.mpr ⟨am_lt20, (List.forall_mem_cons.mpr ⟨am_lt21, (List.forall_mem_cons.mpr ⟨am_lt22, (List.forall_mem_cons.mpr ⟨am_lt23, (List.forall_mem_cons.mpr ⟨am_lt24, (List.forall_mem_cons.mpr ⟨am_lt25, (List.forall_mem_cons.mpr ⟨am_lt26, (List.forall_mem_cons.mpr ⟨am_lt27, (List.forall_mem_cons.mpr ⟨am_lt28, (List.forall_mem_cons.mpr ⟨am_lt29, (List.forall_mem_cons.mpr ⟨am_lt30, (fun _ h => absurd h List.not_mem_nil)⟩)⟩)⟩)⟩)⟩)⟩)⟩)⟩)⟩)⟩)⟩)⟩)⟩)⟩)⟩)⟩)⟩)⟩)⟩)⟩)⟩)⟩)⟩)⟩)⟩)⟩)⟩)⟩)⟩)⟩)⟩)
theorem am_aoM : Cond.arrayOver (.array .int) ∈ lw_tbl := am_at_mem (p := 1199) rfl
theorem am_lsC : Cond.laysStatic "java/lang/String" "COMPACT_STRINGS" "Z" ∈ lw_tbl := am_at_mem (p := 2179) rfl
theorem am_lsM : Cond.laysStatic "LockOrchestra" "MOST_OF_KIND" "[I" ∈ lw_tbl := am_at_mem (p := 2232) rfl
theorem am_lsP : Cond.laysStatic "jdk/internal/util/Preconditions" "SIOOBE_FORMATTER" "Ljava/util/function/BiFunction;" ∈ lw_tbl := am_at_mem (p := 2195) rfl
theorem am_inP : Cond.initialized "jdk/internal/util/Preconditions" ∈ lw_tbl := am_at_mem (p := 1018) rfl
theorem am_inS : Cond.initialized "java/lang/String" ∈ lw_tbl := am_at_mem (p := 1016) rfl
theorem am_inO : Cond.initialized "LockOrchestra" ∈ lw_tbl := am_at_mem (p := 1001) rfl
theorem am_fnM : Cond.fieldLinkNest "LockOrchestra$Hall" 91 "LockOrchestra" "MOST_OF_KIND" "[I" "LockOrchestra" ∈ lw_tbl := am_at_mem (p := 2231) rfl
theorem am_nst_in : ∀ q ∈ am_ns0, Cond.methodLinkNest q.1 q.2.1 q.2.2.1 q.2.2.2 ∈ lw_tbl := (List.forall_mem_cons.mpr ⟨am_at_mem (p := 3115) rfl, (List.forall_mem_cons.mpr ⟨am_at_mem (p := 4009) rfl, (List.forall_mem_cons.mpr ⟨am_at_mem (p := 1220) rfl, (List.forall_mem_cons.mpr ⟨am_at_mem (p := 3033) rfl, (List.forall_mem_cons.mpr ⟨am_at_mem (p := 2230) rfl, (List.forall_mem_cons.mpr ⟨am_at_mem (p := 3091) rfl, (List.forall_mem_cons.mpr ⟨am_at_mem (p := 5066) rfl, (List.forall_mem_cons.mpr ⟨am_at_mem (p := 5080) rfl, (List.forall_mem_cons.mpr ⟨am_at_mem (p := 4149) rfl, (List.forall_mem_cons.mpr ⟨am_at_mem (p := 4159) rfl, (List.forall_mem_cons.mpr ⟨am_at_mem (p := 1103) rfl, (List.forall_mem_cons.mpr ⟨am_at_mem (p := 5188) rfl, (List.forall_mem_cons.mpr ⟨am_at_mem (p := 5189) rfl, (List.forall_mem_cons.mpr ⟨am_at_mem (p := 4208) rfl, (List.forall_mem_cons.mpr ⟨am_at_mem (p := 4209) rfl, (List.forall_mem_cons.mpr ⟨am_at_mem (p := 3204) rfl, (List.forall_mem_cons.mpr ⟨am_at_mem (p := 3232) rfl, (List.forall_mem_cons.mpr ⟨am_at_mem (p := 2108) rfl, (List.forall_mem_cons.mpr ⟨am_at_mem (p := 1032) rfl, (List.forall_mem_cons.mpr ⟨am_at_mem (p := 1137) rfl, (List.forall_mem_cons.mpr ⟨am_at_mem (p := 1165) rfl, (List.forall_mem_cons.mpr ⟨am_at_mem (p := 1178) rfl, (List.forall_mem_cons.mpr ⟨am_at_mem (p := 1194) rfl, (List.forall_mem_cons.mpr ⟨am_at_mem (p := 1215) rfl, (fun _ h => absurd h List.not_mem_nil)⟩)⟩)⟩)⟩)⟩)⟩)⟩)⟩)⟩)⟩)⟩)⟩)⟩)⟩)⟩)⟩)⟩)⟩)⟩)⟩)⟩)⟩)⟩)⟩)
theorem am_cl_inst : ∀ r ∈ am_cl, Cond.instantiable r.1 r.2.2 ∈ lw_tbl := (List.forall_mem_cons.mpr ⟨am_at_mem (p := 1102) rfl, (List.forall_mem_cons.mpr ⟨am_at_mem (p := 1214) rfl, (List.forall_mem_cons.mpr ⟨am_at_mem (p := 1070) rfl, (List.forall_mem_cons.mpr ⟨am_at_mem (p := 1177) rfl, (List.forall_mem_cons.mpr ⟨am_at_mem (p := 1164) rfl, (List.forall_mem_cons.mpr ⟨am_at_mem (p := 1096) rfl, (List.forall_mem_cons.mpr ⟨am_at_mem (p := 1136) rfl, (List.forall_mem_cons.mpr ⟨am_at_mem (p := 1193) rfl, (List.forall_mem_cons.mpr ⟨am_at_mem (p := 1031) rfl, (List.forall_mem_cons.mpr ⟨am_at_mem (p := 1076) rfl, (List.forall_mem_cons.mpr ⟨am_at_mem (p := 1045) rfl, (List.forall_mem_cons.mpr ⟨am_at_mem (p := 1023) rfl, (List.forall_mem_cons.mpr ⟨am_at_mem (p := 5232) rfl, (fun _ h => absurd h List.not_mem_nil)⟩)⟩)⟩)⟩)⟩)⟩)⟩)⟩)⟩)⟩)⟩)⟩)⟩)
