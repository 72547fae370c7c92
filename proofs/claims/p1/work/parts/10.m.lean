/-! new int[n][k]: a row of rows. (The rounds' library bears no law of this instruction: it is walked here, over the library's words on the single steps.) -/
/-- the outer row when i of its rows are made -/
def am_oc (c : ClassId) (N h i : Nat) : Cell := arrV c N (fun j => va_rf (if j < i then some (h + 1 + j) else none))
def am_ic (comp : ClassId) (K : Nat) : Cell := arrV comp K (fun _ => .int 0)
def am_fs (T : State) (c comp : ClassId) (N K : Nat) : Nat → State
  | 0 => T.pushCell (am_oc c N T.heap.size 0)
  | i + 1 => ((am_fs T c comp N K i).pushCell (am_ic comp K)).setCell T.heap.size (am_oc c N T.heap.size (i + 1))
theorem am_oc_next (c : ClassId) (N h i : Nat) : (am_oc c N h i).setSlot i (.ref (h + 1 + i)) = am_oc c N h (i + 1) := by
  unfold am_oc
  rw [arrV_store]
  refine congrArg (arrV c N) (funext fun j => ?_)
  unfold updV
  by_cases e : j = i
  · subst e
    rw [if_pos rfl, if_pos (Nat.lt_succ_self _)]
    rfl
  · rw [if_neg e]
    show va_rf (if j < i then some (h + 1 + j) else none) = _
    by_cases h1 : j < i
    · rw [if_pos h1, if_pos (Nat.lt_succ_of_lt h1)]
    · rw [if_neg h1, if_neg (by omega)]
section AMF
variable (T : State) (c comp : ClassId) (N K : Nat)
theorem am_fs_at : ∀ i, (am_fs T c comp N K i).heap.size = T.heap.size + 1 + i ∧ (am_fs T c comp N K i).heap[T.heap.size]? = some (am_oc c N T.heap.size i) ∧ (am_fs T c comp N K i).vm = T.vm ∧ (am_fs T c comp N K i).slotsUsed = T.slotsUsed + N + i * K
  | 0 => ⟨by simp [am_fs], by simp [am_fs], rfl, by simp [am_fs, am_oc, arrV_size]⟩
  | i + 1 => by
    obtain ⟨a, b, d, u⟩ := am_fs_at i
    have hlt : T.heap.size < (am_fs T c comp N K i).heap.size := by omega
    have hb' : ((am_fs T c comp N K i).pushCell (am_ic comp K)).heap[T.heap.size]? = some (am_oc c N T.heap.size i) := by rw [State.heap_pushCell_of_lt (h := hlt)]; exact b
    refine ⟨?_, State.heap_setCell_self hb', by simp [am_fs, d], ?_⟩
    · simp [am_fs, State.setCell, a]; omega
    · simp [am_fs, u, am_ic, arrV_size, Nat.succ_mul]; omega
theorem am_fs_top (f : JFrame) : ∀ i, am_fs (T.setTop f) c comp N K i = (am_fs T c comp N K i).setTop f
  | 0 => rfl
  | i + 1 => by simp only [am_fs, am_fs_top f i, State.heap_setTop, State.pushCell_setTop, State.setCell_setTop]
theorem am_fs_old {a : Addr} (ha : a < T.heap.size) : ∀ i, (am_fs T c comp N K i).heap[a]? = T.heap[a]?
  | 0 => State.heap_pushCell_of_lt _ _ ha
  | i + 1 => by
    have f1 := (am_fs_at T c comp N K i).1
    have hlt : a < (am_fs T c comp N K i).heap.size := Nat.lt_of_lt_of_le ha (by rw [f1]; omega)
    show (((am_fs T c comp N K i).pushCell (am_ic comp K)).setCell T.heap.size _).heap[a]? = _
    rw [State.heap_setCell_other (Nat.ne_of_gt ha), State.heap_pushCell_of_lt (h := hlt)]
    exact am_fs_old ha i
theorem am_fs_in : ∀ i j, j < i → (am_fs T c comp N K i).heap[T.heap.size + 1 + j]? = some (am_ic comp K)
  | 0, _, h => absurd h (Nat.not_lt_zero _)
  | i + 1, j, h => by
    have f1 := (am_fs_at T c comp N K i).1
    show (((am_fs T c comp N K i).pushCell (am_ic comp K)).setCell T.heap.size _).heap[T.heap.size + 1 + j]? = _
    rw [State.heap_setCell_other (show T.heap.size ≠ T.heap.size + 1 + j by omega)]
    rcases Nat.lt_or_ge j i with hj | hj
    · have hlt : T.heap.size + 1 + j < (am_fs T c comp N K i).heap.size := by rw [f1]; omega
      rw [State.heap_pushCell_of_lt (h := hlt)]
      exact am_fs_in i j hj
    · obtain rfl : j = i := by omega
      rw [← f1]
      exact State.heap_pushCell_size _ _
end AMF
section AMG
variable {E : CtlPost} {e : Env} {d : Bool} {acts : List Action} {s : State}
theorem am_wpA {c comp : ClassId} {k : Class} {type : FieldType} {len : Nat} {init : Value} (hk : s.vm.classes[c]? = some k) (hkind : k.kind = .array comp type) (hlimit : ¬ len > e.platform.arrayLengthLimit) (hheap : ¬ len * componentBytes type > e.platform.maxHeapBytes) (hfit : fits type init = true) (hdef : init.isDefault = true) {Q : Addr → Pre}
    (h1 : s.heap.size < e.platform.maxCells) (h2 : s.slotsUsed + len ≤ e.platform.maxSlots) (hq : Q s.heap.size d acts (s.pushCell (arrV c len (fun _ => init)))) : wp (Jvm.newArray c len init) Q E e d acts s := by
  rw [← arrV_new] at hq
  have hfits : ∀ i v, (Array.replicate len init)[i]? = some v → s.fitsSlot c .none i v = true := by
    intro i v hv
    rw [Array.getElem?_replicate] at hv
    split at hv
    · cases hv
      simp [State.fitsSlot, State.slotType?, hk, hkind, hfit]
    · cases hv
  have hall : ((Array.replicate len init).all (·.isDefault)) = true := by
    rw [Array.all_replicate]
    split <;> simp [hdef]
  have hda : allocActs (Array.replicate len init) s.heap.size acts = acts := by
    unfold allocActs
    rw [if_pos hall]
  simp only [Jvm.newArray, Jvm.arrayFits, wp_bind', W.ask, W.ite, hlimit, if_false, wp_pure', W.theClass, hk, hkind, hheap, W.alloc, W.stop, Option.some.injEq, exists_eq_left', Array.size_replicate, hda]
  rw [if_neg (by omega)]
  exact ⟨h1, h2, hfits, hq⟩
theorem am_wp1 {comp cc : ClassId} {kc : Class} {m : Int32} (hkc : s.vm.classes[comp]? = some kc) (hkindc : kc.kind = .array cc .int) (hm : ¬ m < 0) (hl2 : ¬ m.toNatClampNeg > e.platform.arrayLengthLimit) (hh2 : ¬ m.toNatClampNeg * componentBytes .int > e.platform.maxHeapBytes)
    (h1 : s.heap.size < e.platform.maxCells) (h2 : s.slotsUsed + m.toNatClampNeg ≤ e.platform.maxSlots) {Q : Addr → Pre} (hq : Q s.heap.size d acts (s.pushCell (am_ic comp m.toNatClampNeg))) : wp (multianewarray.make comp [m]) Q E e d acts s := by
  rw [multianewarray.make]
  simp only [wp_bind', W.ite, hm, if_false, wp_pure', W.theClass, hkc, hkindc, Option.some.injEq, exists_eq_left']
  exact am_wpA hkc hkindc hl2 hh2 rfl rfl h1 h2 hq
theorem am_wp2 {c comp cc : ClassId} {k kc : Class} {n m : Int32} (hk : s.vm.classes[c]? = some k) (hkind : k.kind = .array comp (.array .int)) (hkc : s.vm.classes[comp]? = some kc) (hkindc : kc.kind = .array cc .int) (hn : ¬ n < 0) (hm : ¬ m < 0)
    (hl1 : ¬ n.toNatClampNeg > e.platform.arrayLengthLimit) (hh1 : ¬ n.toNatClampNeg * componentBytes (.array .int) > e.platform.maxHeapBytes) (hl2 : ¬ m.toNatClampNeg > e.platform.arrayLengthLimit) (hh2 : ¬ m.toNatClampNeg * componentBytes .int > e.platform.maxHeapBytes)
    (hc : s.heap.size + 1 + n.toNatClampNeg ≤ e.platform.maxCells) (hs : s.slotsUsed + n.toNatClampNeg + n.toNatClampNeg * m.toNatClampNeg ≤ e.platform.maxSlots) {Q : Addr → Pre} (hq : ∀ d' acts', Q s.heap.size d' acts' (am_fs s c comp n.toNatClampNeg m.toNatClampNeg n.toNatClampNeg)) : wp (multianewarray.make c [n, m]) Q E e d acts s := by
  have hfind : ([m].find? (· < 0)) = none := by simp [hm]
  have hmul0 := Nat.zero_le (n.toNatClampNeg * m.toNatClampNeg)
  rw [multianewarray.make]
  simp only [wp_bind', W.ite, hn, if_false, wp_pure', W.theClass, hk, hkind, Option.some.injEq, exists_eq_left']
  refine am_wpA hk hkind hl1 hh1 rfl rfl (by omega) (by omega) ?_
  simp only [hfind]
  rw [ite_self, wp_bind', Std.Legacy.Range.forIn_eq_forIn_range']
  have hsz : ([:n.toNatClampNeg] : Std.Legacy.Range).size = n.toNatClampNeg := by simp [Std.Legacy.Range.size]
  rw [hsz]
  show wp (forIn (List.range' 0 n.toNatClampNeg 1) PUnit.unit _) _ E e d acts _
  refine wp_forIn_inv (fun rest s' => ∃ i, i ≤ n.toNatClampNeg ∧ rest = List.range' i (n.toNatClampNeg - i) ∧ s' = am_fs s c comp n.toNatClampNeg m.toNatClampNeg i) _ _ ⟨0, Nat.zero_le _, rfl, ?_⟩ ?_ ?_
  · show _ = s.pushCell (am_oc c n.toNatClampNeg s.heap.size 0)
    unfold am_oc
    simp [va_rf]
  · rintro x rest s' d' acts' Q' ⟨i, hi, hl, rfl⟩ hnext
    have hlt : i < n.toNatClampNeg := by
      rcases Nat.lt_or_ge i n.toNatClampNeg with h | h
      · exact h
      · rw [show n.toNatClampNeg - i = 0 from by omega] at hl
        simp at hl
    obtain ⟨rfl, hrest⟩ : x = i ∧ rest = List.range' (i + 1) (n.toNatClampNeg - (i + 1)) := by
      rw [show n.toNatClampNeg - i = (n.toNatClampNeg - (i + 1)) + 1 from by omega, List.range'_succ] at hl
      exact ⟨(List.cons.inj hl).1, (List.cons.inj hl).2⟩
    obtain ⟨f1, f2, f3, f4⟩ := am_fs_at s c comp n.toNatClampNeg m.toNatClampNeg x
    have hmul : x * m.toNatClampNeg + m.toNatClampNeg ≤ n.toNatClampNeg * m.toNatClampNeg := by
      have := Nat.mul_le_mul_right m.toNatClampNeg (show x + 1 ≤ n.toNatClampNeg from hlt)
      rw [Nat.succ_mul] at this
      exact this
    simp only [wp_bind']
    refine am_wp1 (by rw [f3]; exact hkc) hkindc hm hl2 hh2 (by rw [f1]; omega) (by rw [f4]; omega) ?_
    have hlt0 : s.heap.size < (am_fs s c comp n.toNatClampNeg m.toNatClampNeg x).heap.size := by rw [f1]; omega
    simp only [wp_bind', W.writeLoc, wp_pure']
    refine ⟨am_oc c n.toNatClampNeg s.heap.size x, by rw [State.heap_pushCell_of_lt (h := hlt0)]; exact f2, (fun z => by cases z), by unfold am_oc; rw [arrV_size]; exact hlt, ?_, hnext _ _ _ ⟨x + 1, hlt, hrest, ?_⟩⟩
    · show State.fitsSlot _ c .none x _ = true
      simp [State.fitsSlot, State.slotType?, f3, hk, hkind, fits]
    · rw [f1, am_oc_next]
      rfl
  · rintro s' d' acts' ⟨i, hi, hl, rfl⟩
    obtain rfl : i = n.toNatClampNeg := by
      rcases Nat.lt_or_ge i n.toNatClampNeg with h | h
      · rw [show n.toNatClampNeg - i = (n.toNatClampNeg - (i + 1)) + 1 from by omega, List.range'_succ] at hl
        cases hl
      · omega
    simp only [wp_pure']
    exact hq _ _
end AMG
section AMZ
variable {D : va_G} {B : Nat} {ra : Nat → Nat} {cA : Nat → ClassId} {E : am_Env} {n0 n1 z1 d : Nat} {M N : am_M} {p : Program} {l : Launch} {e : Env} {R : Room} {s : State} {m : MethodId} {args : Array Value} {below : List Frame} {meth : Method} {c : Code} {Q : State → Prop}
theorem am_fs_st {T : State} {locs : List Loc} {cells slots : Nat} (X : Stand p l e R s m args below meth c T locs cells slots) (cG comp : ClassId) (N K : Nat) : ∀ i, Stand p l e R s m args below meth c (am_fs T cG comp N K i) (locs ++ (List.range i).map fun j => ⟨T.heap.size, j⟩) (cells + 1 + i) (slots + N + i * K)
  | 0 => by
    have h := X.pushed (am_oc cG N T.heap.size 0)
    rw [show (am_oc cG N T.heap.size 0).slots.size = N from arrV_size _ _ _] at h
    simpa [am_fs] using h
  | i + 1 => by
    have Xi := am_fs_st X cG comp N K i
    obtain ⟨f1, f2, f3, f4⟩ := am_fs_at T cG comp N K i
    have hlt0 : T.heap.size < (am_fs T cG comp N K i).heap.size := by rw [f1]; omega
    have hcell : ((am_fs T cG comp N K i).pushCell (am_ic comp K)).heap[T.heap.size]? = some (am_oc cG N T.heap.size i) := by rw [State.heap_pushCell_of_lt (h := hlt0)]; exact f2
    have h := (Xi.pushed (am_ic comp K)).stored hcell i (.ref (T.heap.size + 1 + i))
    rw [am_oc_next, show (am_ic comp K).slots.size = K from arrV_size _ _ _] at h
    have e2 : (locs ++ (List.range (i + 1)).map fun j => (⟨T.heap.size, j⟩ : Loc)) = (locs ++ (List.range i).map fun j => (⟨T.heap.size, j⟩ : Loc)) ++ [⟨T.heap.size, i⟩] := by simp [List.range_succ, List.append_assoc]
    have e3 : slots + N + (i + 1) * K = slots + N + i * K + K := by rw [Nat.succ_mul]; omega
    rw [e2, e3]
    exact h
theorem am_mna {T : State} {locs : List Loc} {cells slots : Nat} (X : Stand p l e R s m args below meth c T locs cells slots) (hexec : p.tables.exec = Jvm.exec) {own : String} {index : Nat} (hown : s.vm.findClass own = some m.cls) (hclink : (Cond.classLink own index ("[" ++ (FieldType.array .int).toString)).before args s = true)
    (hover : am_AO s) (harr : (Cond.arrayClass .int).before args s = true) {g : JFrame} (hg : g.method = m) (hdg : decode c.code g.pc = .ok (.multianewarray index 2, 4)) {n k : Int32} {rest : List Value} (hstack : g.stack = .int k :: .int n :: rest) (hn : ¬ n < 0) (hk : ¬ k < 0) (hb1 : n.toNatClampNeg ≤ 1000) (hb2 : k.toNatClampNeg ≤ 1000)
    (hcells : cells + (1 + n.toNatClampNeg) ≤ R.cells) (hslots : slots + (n.toNatClampNeg + n.toNatClampNeg * k.toNatClampNeg) ≤ R.slots) :
    ∃ (vm₁ : Vm) (cG comp : ClassId), s.vm.findClass ("[" ++ (FieldType.array .int).toString) = some cG ∧ s.vm.findClass (FieldType.array .int).toString = some comp ∧ Stand p l e R s m args below meth c (am_fs (T.setVm vm₁) cG comp n.toNatClampNeg k.toNatClampNeg n.toNatClampNeg) (locs ++ (List.range n.toNatClampNeg).map fun j => ⟨T.heap.size, j⟩) (cells + 1 + n.toNatClampNeg) (slots + n.toNatClampNeg + n.toNatClampNeg * k.toNatClampNeg) ∧
      ∀ target, Steps p.tables e below ((am_fs (T.setVm vm₁) cG comp n.toNatClampNeg k.toNatClampNeg n.toNatClampNeg).setTop { g with pc := g.pc + 4, stack := .ref T.heap.size :: rest }) target → Steps p.tables e below (T.setTop g) target := by
  subst hg
  have hpl : e.platform.magicAccessors = ({} : Platform).magicAccessors := by rw [X.admits.platform]
  obtain ⟨comp, cG, kA, hcomp, hkA, hkindA, hnameA⟩ := hover
  obtain ⟨comp', kC, cc, hcomp', hkC, hkindC⟩ := Cond.arrayClass_spec (args := args) (first := s) (o := none) (s := s) (idx := []) harr
  obtain rfl : comp' = comp := Option.some.inj (hcomp'.symm.trans hcomp)
  obtain ⟨c0, hfc0, hcl⟩ := Cond.classLink_spec hown hclink e.platform hpl
  cases hnameA.symm.trans hfc0
  obtain ⟨hg₁, hwarm₁, hready₁⟩ := State.classEntry (e := e) X.warmed hcl
  generalize T.vm.noted g.method.cls index (.cls cG) = vm₁ at hg₁ hwarm₁ hready₁
  have hal : s.vm.Alike vm₁ := hwarm₁.alike
  obtain ⟨kA₁, hkA₁, heA⟩ := hal.2.2 _ _ hkA
  obtain ⟨kC₁, hkC₁, heC⟩ := hal.2.2 _ _ hkC
  have hkindA₁ : kA₁.kind = .array comp' (.array .int) := by rw [heA]; exact hkindA
  have hkindC₁ : kC₁.kind = .array cc .int := by rw [heC]; exact hkindC
  have X₁ := X.noted hwarm₁
  obtain ⟨hr1, hr2⟩ := X.roomAbove hcells hslots
  refine ⟨vm₁, cG, comp', hnameA, hcomp, am_fs_st X₁ cG comp' _ _ _, fun target hrest => ?_⟩
  have hl1 : ¬ n.toNatClampNeg > e.platform.arrayLengthLimit := by rw [Launch.admits_arrayLengthLimit X.admits]; omega
  have hh1 : ¬ n.toNatClampNeg * componentBytes (.array .int) > e.platform.maxHeapBytes := by
    rw [Launch.admits_maxHeapBytes X.admits]
    show ¬ n.toNatClampNeg * 4 > 536870912
    omega
  have hl2 : ¬ k.toNatClampNeg > e.platform.arrayLengthLimit := by rw [Launch.admits_arrayLengthLimit X.admits]; omega
  have hh2 : ¬ k.toNatClampNeg * componentBytes .int > e.platform.maxHeapBytes := by
    rw [Launch.admits_maxHeapBytes X.admits]
    show ¬ k.toNatClampNeg * 4 > 536870912
    omega
  jvm_step X.here [hexec, hdg]
  simp only [multianewarray.sem, wp_bind', W.resolveClassAt_links (State.method?_setTop g X.here.top) hg₁]
  rw [W.popN, if_neg (by decide)]
  refine ⟨g, State.topJava?_setTop' (s := T.setVm vm₁) g X.here.top, [.int n, .int k], rest, rfl, hstack, ?_⟩
  simp only [List.mapM_cons, List.mapM_nil, wp_bind', wp_pure']
  refine am_wp2 (k := kA₁) (kc := kC₁) (comp := comp') (cc := cc) hkA₁ hkindA₁ hkC₁ hkindC₁ hn hk hl1 hh1 hl2 hh2 (by show T.heap.size + 1 + _ ≤ _; omega) (by show T.slotsUsed + _ + _ ≤ _; omega) (fun d' acts' => ?_)
  have XF := am_fs_st X₁ cG comp' n.toNatClampNeg k.toNatClampNeg n.toNatClampNeg
  have eS : ((T.setTop g).setVm vm₁).setTop { g with stack := rest } = (T.setVm vm₁).setTop { g with stack := rest } := by
    show ((T.setVm vm₁).setTop g).setTop _ = _
    rw [State.setTop_setTop]
  rw [eS, am_fs_top]
  simp only [wp_bind', W.mark, W.pushRef, State.topJava?_setTop' _ XF.here.top, Option.some.injEq, exists_eq_left', State.setTop_setTop, State.heap_setTop]
  intro acts
  simp [jvm, XF.here.top]
  exact hrest
set_option maxHeartbeats 4000000 in
theorem am_o_mna (x k : Nat) (F : am_Fr D B ra cA E n0 d M p R s m args meth c) {nn : Nat} {C C1 : am_C} (hdg0 : decode (am_cc M) C.1 = .ok (.multianewarray x k, nn)) (hn : am_ln (.multianewarray x k) = 0 ∨ nn = am_ln (.multianewarray x k)) (h : am_mk M (.multianewarray x k) C.1 C.2.1 C.2.2.1 C.2.2.2 = some C1) (h0 : n0 ≤ C.2.2.2.length) (hn1 : C1.2.2.2.length ≤ n1) (hz1 : am_sz C1.2.2.2 ≤ z1) (kk : am_AW D B ra cA n0 n1 z1 M p l e R s m args below meth c Q C1) : am_AW D B ra cA n0 n1 z1 M p l e R s m args below meth c Q C := by
  obtain ⟨pc, ls, st, hp⟩ := C
  intro H locs lsA cells slots hP hS hl hc hs hnn
  obtain ⟨hx, hb, hml, hown, hts, hK, hro, hr, hlk, hini, hB, hR1, hR2, hok, hR3, hR4⟩ := F
  obtain rfl : nn = 4 := hn.resolve_left (by simp [am_ln])
  unfold am_mk at h
  split at h
  · next hi => cases hi
  · next hi => cases hi
  · next x' hi =>
    cases hi
    have hdg : decode (am_cc M) pc = .ok (.multianewarray x 2, 4) := hdg0
    split at h
    · next j n r _ _ hst hpl =>
      split at h
      · next hcnd =>
        obtain ⟨c1, c2, c3, c4, c5⟩ := hcnd
        cases h
        have hst : st = .int j :: .int n :: r := hst
        subst hst
        have hP : va_P D am_cl (am_w B ra cA hp) H := hP
        have hcl : cells + n0 = hp.length := hc
        have hsl : slots + z1 ≤ R.slots + am_sz hp := hs
        obtain ⟨h1, -⟩ := am_pl_ok hpl
        simp only [am_ws] at h1
        have hszr : am_sz (List.replicate n.toNatClampNeg (Sum.inl (0, j.toNatClampNeg, .inl (fun _ => 0)) : va_E)) = n.toNatClampNeg * j.toNatClampNeg := by simp [am_sz, am_cz]
        have hn1' : hp.length + 1 + n.toNatClampNeg ≤ n1 := by
          have := hn1
          simp at this
          omega
        have hz1' : am_sz hp + n.toNatClampNeg + n.toNatClampNeg * j.toNatClampNeg ≤ z1 := by
          have := hz1
          simp only [am_sz_app, hszr] at this
          simpa [am_sz, am_cz] using this
        intro T hT X
        have hTz : T.heap.size = B + hp.length := by
          have q1 := am_lo hP hS hB h0
          have q2 := X.heapSize
          rw [hT] at q2 ⊢
          have h0' : n0 ≤ hp.length := h0
          omega
        obtain ⟨vm₁, cG, comp, fG, fC, X', step⟩ := am_mna X hx hown (hts _ (h1 _ List.mem_cons_self)) hro.2.2.2.2.2.2.2 (hts _ am_acI) (g := F0 m pc lsA ((.int j :: .int n :: r).map (am_v B ra))) rfl (by rw [hb]; exact hdg) rfl c1 c2 c3 c4 (by omega) (by omega)
        have hTh : (T.setVm vm₁).heap = T.heap := rfl
        obtain ⟨f1, f2, -, -⟩ := am_fs_at (T.setVm vm₁) cG comp n.toNatClampNeg j.toNatClampNeg n.toNatClampNeg
        have hG : cG = cA 3 := by
          have g2 : s.vm.findClass ("[" ++ (FieldType.array .int).toString) = some (cA 3) := (hK.2 3 (cA 3, .array .int) rfl).2
          exact Option.some.inj (fG.symm.trans g2)
        have hI : comp = cA 0 := by
          have g2 : s.vm.findClass ("[" ++ (FieldType.int).toString) = some (cA 0) := (hK.2 0 (cA 0, .int) rfl).2
          exact Option.some.inj (fC.symm.trans g2)
        subst hG
        subst hI
        generalize hF : am_fs (T.setVm vm₁) (cA 3) (cA 0) n.toNatClampNeg j.toNatClampNeg n.toNatClampNeg = F at X' step f1 f2
        have hold : ∀ q : Nat, q < H.size → F.heap[q]? = H[q]? := fun q hq => by
          rw [← hF, am_fs_old (T.setVm vm₁) (cA 3) (cA 0) n.toNatClampNeg j.toNatClampNeg (a := q) (by rw [hTh, hT]; exact hq), hTh, hT]
        have hrow : ∀ i : Nat, i < n.toNatClampNeg → F.heap[B + hp.length + 1 + i]? = some (am_ic (cA 0) j.toNatClampNeg) := fun i hi => by
          have := am_fs_in (T.setVm vm₁) (cA 3) (cA 0) n.toNatClampNeg j.toNatClampNeg n.toNatClampNeg i hi
          rw [hF, hTh, hTz] at this
          exact this
        rw [hTh, hTz] at f2
        have hHz : H.size = B + hp.length := by rw [← hT]; exact hTz
        have hP1 : va_P D am_cl (am_w B ra cA ((hp ++ [.inl (3, n.toNatClampNeg, .inr (.inr (.inr (.inr (fun i => if i < n.toNatClampNeg then some (hp.length + 1 + i) else none)))))]) ++ List.replicate n.toNatClampNeg (.inl (0, j.toNatClampNeg, .inl (fun _ => 0))))) F.heap := by
          intro i q hq
          rw [am_w_get] at hq
          rcases Nat.lt_or_ge i hp.length with hi | hi
          · rw [List.append_assoc, List.getElem?_append_left hi] at hq
            have h5 := am_w_get (B := B) (ra := ra) (cA := cA) (hp := hp) i
            rw [hq] at h5
            have h6 := hP i q h5
            exact h6.kept (hold q.1 h6.lt)
          · rcases Nat.lt_or_ge i (hp.length + 1) with hi2 | hi2
            · obtain rfl : i = hp.length := by omega
              rw [List.append_assoc, List.getElem?_append_right (Nat.le_refl _), Nat.sub_self] at hq
              cases hq
              show F.heap[B + hp.length]? = some (vp_cell (cA 3) (n.toNatClampNeg, .inr (.inr (.inr (.inr _)))))
              rw [f2, vp_cell_q]
              unfold am_oc
              refine congrArg (fun z => some (arrV (cA 3) n.toNatClampNeg z)) (funext fun a => ?_)
              by_cases ha : a < n.toNatClampNeg
              · simp only [if_pos ha, Option.map_some]
                unfold am_ad
                rw [if_pos (by omega)]
                congr 2
                omega
              · simp only [if_neg ha, Option.map_none]
            · rw [List.getElem?_append_right (by simp; omega)] at hq
              rw [List.getElem?_replicate] at hq
              split at hq
              · next hlt =>
                cases hq
                have hlt' : i - (hp.length + 1) < n.toNatClampNeg := by simpa using hlt
                show F.heap[B + i]? = some (vp_cell (cA 0) (j.toNatClampNeg, .inl (fun _ => 0)))
                have := hrow (i - (hp.length + 1)) hlt'
                rw [show B + hp.length + 1 + (i - (hp.length + 1)) = B + i by omega] at this
                rw [this]
                rfl
              · cases hq
        have hfz : F.heap.size = B + hp.length + 1 + n.toNatClampNeg := by rw [f1, hTh, hTz]
        have hS1 : va_S (fun q => B ≤ q) s.heap F.heap (locs ++ (List.range n.toNatClampNeg).map fun j => ⟨T.heap.size, j⟩) := by
          refine ⟨by have := hS.1; omega, fun q g1 g2 => ?_, fun q hq => ?_⟩
          · rw [hold q (Nat.lt_of_lt_of_le g1 hS.1)]
            exact hS.2.1 q g1 g2
          · rcases List.mem_append.mp hq with h | h
            · exact hS.2.2 q h
            · obtain ⟨z, -, hz⟩ := List.mem_map.mp h
              rw [← hz]
              show B ≤ T.heap.size
              omega
        have k2 := kk F.heap _ lsA (cells + 1 + n.toNatClampNeg) (slots + n.toNatClampNeg + n.toNatClampNeg * j.toNatClampNeg) hP1 hS1 hl (by show _ = ((hp ++ [_]) ++ List.replicate _ _).length; simp; omega) (by show _ ≤ R.slots + am_sz ((hp ++ [_]) ++ List.replicate _ _); simp only [am_sz_app, hszr]; rw [show am_sz [Sum.inl (3, n.toNatClampNeg, .inr (.inr (.inr (.inr (fun i => if i < n.toNatClampNeg then some (hp.length + 1 + i) else none)))))] = n.toNatClampNeg by simp [am_sz, am_cz]]; omega) hnn F rfl X'
        obtain ⟨t, a1, b1⟩ := k2
        refine ⟨t, step t ?_, b1⟩
        have e9 : (F0 m (pc + 4) lsA ((Value.ref hp.length :: r).map (am_v B ra))) = { (F0 m pc lsA ((.int j :: .int n :: r).map (am_v B ra))) with pc := pc + 4, stack := .ref T.heap.size :: r.map (am_v B ra) } := by
          rw [List.map_cons, am_v_lo (by omega), hTz]
        rw [← e9]
        exact a1
      · cases h
    · cases h
  · cases h
end AMZ
