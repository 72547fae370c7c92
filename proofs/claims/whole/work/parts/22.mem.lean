/-! the machine's cells out of numbers, and the rules by which a run follows a pure function -/
def xfv (q : Nat × Int) (x : Int) : Value := match q.1 with
  | 0 => .ref q.2.toNat
  | 1 => .int (i32 x)
  | 2 => .long (i64 x)
  | 3 => .ref (hlr x)
  | _ => .int (i32 q.2)
def xfl (f : Int → Int) : Nat → List (Nat × Int) → List Value
  | _, [] => []
  | k, q :: t => xfv q (f (k : Int)) :: xfl f (k + 1) t
def xcf (q : Nat × Nat × List (Nat × Int) × List Nat) (f : Int → Int) : va_E := match q.1 with
  | 0 => .inl (0, q.2.1, .inl (fun i => i32 (f (i : Int))))
  | 1 => .inl (1, q.2.1, .inr (.inl (fun i => i64 (f (i : Int)))))
  | 2 => .inl (2, q.2.1, .inl (fun i => i32 ((q.2.2.2.getD i 0 : Nat) : Int)))
  | 3 => .inl (3, q.2.1, .inr (.inr (.inr (.inr (fun i => if i < q.2.1 then some (24 + i) else none)))))
  | _ => .inr (q.2.1, xfl f 0 q.2.2.1)
def enc (m : xm) : am_H := (List.range 142).map (fun a => xcf (xsa a) (m a))
theorem enc_get {m : xm} {a : Nat} (ha : a < 142) : (enc m)[a]? = some (xcf (xsa a) (m a)) := by
  unfold enc
  rw [List.getElem?_map, List.getElem?_range ha]
  rfl
theorem enc_len (m : xm) : (enc m).length = 142 := by
  unfold enc
  rw [List.length_map, List.length_range]
theorem enc_set {m m' : xm} {a : Nat} (h : ∀ b, b ≠ a → m' b = m b) : (enc m).set a (xcf (xsa a) (m' a)) = enc m' := by
  apply List.ext_getElem?
  intro b
  by_cases hb : b < 142
  · rw [List.getElem?_set]
    by_cases hab : a = b
    · subst hab
      rw [if_pos rfl, if_pos (by rw [enc_len]; exact hb), enc_get hb]
    · rw [if_neg hab, enc_get hb, enc_get hb, h b (fun z => hab z.symm)]
  · rw [List.getElem?_eq_none (by rw [List.length_set, enc_len]; omega), List.getElem?_eq_none (by rw [enc_len]; omega)]
def xv (t : Nat) (r : Int) : Option Value := match t with
  | 0 => none
  | 1 => some (.int (i32 r))
  | 2 => some (.long (i64 r))
  | _ => some (.ref r.toNat)
def xcov (lsc ls : am_L) : Prop := (lsc.map (fun q => q.1)).Nodup ∧ ∀ i v, am_ld i lsc = some v → am_ld i ls = some v
def xw (E : am_Env) (d : Nat) (M : am_M) (t pc : Nat) (lsc : am_L) (sk : List Value) (m : xm) (o : xr) : Prop := ∀ p, o = some p → ∀ ls, xcov lsc ls → am_end E d M (pc, ls, sk, enc m) (xv t p.1) (enc p.2)
theorem am_ld_of_mem {i : Nat} {v : Value} {ls : am_L} (hn : (ls.map (fun q => q.1)).Nodup) (h : (i, v) ∈ ls) : am_ld i ls = some v := by
  induction ls with
  | nil => cases h
  | cons q t ih =>
    obtain ⟨j, w⟩ := q
    rw [List.map_cons, List.nodup_cons] at hn
    unfold am_ld
    rcases List.mem_cons.mp h with h1 | h1
    · cases h1
      rw [if_pos rfl]
    · have hji : ¬ j = i := fun z => hn.1 (by subst z; exact List.mem_map.mpr ⟨_, h1, rfl⟩)
      rw [if_neg hji]
      exact ih hn.2 h1
theorem am_ld_filter {i : Nat} {v : Value} {ls : am_L} {p : Nat × Value → Bool} (h : am_ld i ls = some v) (hp : p (i, v) = true) : am_ld i (ls.filter p) = some v := by
  induction ls with
  | nil => cases h
  | cons q t ih =>
    obtain ⟨j, w⟩ := q
    unfold am_ld at h
    split at h
    · next hj =>
      cases h
      subst hj
      rw [List.filter_cons, if_pos hp]
      unfold am_ld
      rw [if_pos rfl]
    · next hj =>
      rw [List.filter_cons]
      split
      · unfold am_ld
        rw [if_neg hj]
        exact ih h
      · exact ih h
theorem xcov_flt {lsc ls : am_L} {k : Nat} {v : Value} {p : Nat × Value → Bool} (hk : ∀ w, p (k, w) = false) (h : xcov lsc ls) : xcov ((k, v) :: lsc.filter p) ((k, v) :: ls.filter p) := by
  obtain ⟨hn, hc⟩ := h
  have hn1 : ((lsc.filter p).map (fun q => q.1)).Nodup := List.Sublist.nodup (List.Sublist.map _ List.filter_sublist) hn
  refine ⟨?_, fun i w hi => ?_⟩
  · rw [List.map_cons, List.nodup_cons]
    refine ⟨fun z => ?_, hn1⟩
    obtain ⟨q, hq, e⟩ := List.mem_map.mp z
    obtain ⟨j, u⟩ := q
    dsimp only at e
    subst e
    have := (List.mem_filter.mp hq).2
    rw [hk u] at this
    cases this
  · unfold am_ld at hi ⊢
    split at hi
    · next hj => rw [if_pos hj]; exact hi
    · next hj =>
      rw [if_neg hj]
      have hm := am_ld_mem hi
      have hm2 := List.mem_filter.mp hm
      exact am_ld_filter (hc _ _ (am_ld_of_mem hn hm2.1)) hm2.2
theorem xcov_s1 {lsc ls : am_L} {k : Nat} {v : Value} (h : xcov lsc ls) : xcov (am_s1 k v lsc) (am_s1 k v ls) := by
  unfold am_s1
  exact xcov_flt (fun w => by simp) h
theorem xcov_s2 {lsc ls : am_L} {k : Nat} {v : Value} (h : xcov lsc ls) : xcov (am_s2 k v lsc) (am_s2 k v ls) := by
  unfold am_s2
  exact xcov_flt (fun w => by simp) h
def xall (ls : am_L) : am_L → Prop
  | [] => True
  | q :: t => am_ld q.1 ls = some q.2 ∧ xall ls t
theorem xall_mem {ls lsc : am_L} (h : xall ls lsc) : ∀ q ∈ lsc, am_ld q.1 ls = some q.2 := by
  induction lsc with
  | nil => intro q hq; cases hq
  | cons q t ih =>
    intro r hr
    rcases List.mem_cons.mp hr with h1 | h1
    · subst h1; exact h.1
    · exact ih h.2 r h1
def xndk : List Nat → Bool
  | [] => true
  | a :: t => !t.contains a && xndk t
theorem xndk_ok : ∀ {l : List Nat}, xndk l = true → l.Nodup
  | [], _ => List.nodup_nil
  | a :: t, h => by
    unfold xndk at h
    rw [Bool.and_eq_true, Bool.not_eq_true'] at h
    rw [List.nodup_cons]
    refine ⟨fun z => ?_, xndk_ok h.2⟩
    rw [List.contains_iff_mem.mpr z] at h
    cases h.1
section XW
variable {E : am_Env} {d : Nat} {M N : am_M} {t pc : Nat} {lsc : am_L} {sk : List Value} {m : xm} {o A B : xr}
theorem w_none : xw E d M t pc lsc sk m none := fun _ h => by cases h
theorem w_weak (lsd : am_L) (hn : xndk (lsd.map (fun q => q.1)) = true) (ha : xall lsc lsd) (k : xw E d M t pc lsd sk m o) : xw E d M t pc lsc sk m o := by
  intro p hp ls hc
  refine k p hp ls ⟨xndk_ok hn, fun i v hi => hc.2 i v ?_⟩
  exact xall_mem ha _ (am_ld_mem hi)
theorem w_letI {x : Int} {K : Int → xr} (q : ∀ v : Int, xw E d M t pc lsc (.int (i32 v) :: sk) m (K v)) : xw E d M t pc lsc (.int (i32 x) :: sk) m (xlt x K) := q x
theorem w_letL {x : Int} {K : Int → xr} (q : ∀ v : Int, xw E d M t pc lsc (.long (i64 v) :: sk) m (K v)) : xw E d M t pc lsc (.long (i64 x) :: sk) m (xlt x K) := q x
theorem w_stp {pc' : Nat} {lsd : am_L} {sk' : List Value} {m' : xm} (h : ∀ ls, xcov lsc ls → ∃ ls', am_stp E M (pc, ls, sk, enc m) = some (pc', ls', sk', enc m') ∧ xcov lsd ls') (k : xw E d M t pc' lsd sk' m' o) : xw E d M t pc lsc sk m o := by
  intro p hp ls hc
  obtain ⟨ls', h1, h2⟩ := h ls hc
  exact am_e_stp h1 (k p hp ls' h2)
theorem w_one {i : Instr} {pc' : Nat} {sk' : List Value} (hi : (am_cd M).lookup pc = some i) (hr : am_ret M i sk = none) (hc : am_cal M i = none) (h : ∀ ls, xcov lsc ls → am_one E M i pc ls sk (enc m) = some (pc', ls, sk', enc m)) (k : xw E d M t pc' lsc sk' m o) : xw E d M t pc lsc sk m o := by
  refine w_stp (fun ls hl => ⟨ls, ?_, hl⟩) k
  unfold am_stp
  simp only [hi, hr, hc]
  exact h ls hl
theorem w_oneM {i : Instr} {pc' : Nat} {sk' : List Value} {m' : xm} (hi : (am_cd M).lookup pc = some i) (hr : am_ret M i sk = none) (hc : am_cal M i = none) (h : ∀ ls, am_one E M i pc ls sk (enc m) = some (pc', ls, sk', enc m')) (k : xw E d M t pc' lsc sk' m' o) : xw E d M t pc lsc sk m o := by
  refine w_stp (fun ls hl => ⟨ls, ?_, hl⟩) k
  unfold am_stp
  simp only [hi, hr, hc]
  exact h ls
theorem w_oneL {i : Instr} {pc' : Nat} {lsd : am_L} {sk' : List Value} (hi : (am_cd M).lookup pc = some i) (hr : am_ret M i sk = none) (hc : am_cal M i = none) (h : ∀ ls, xcov lsc ls → ∃ ls', am_one E M i pc ls sk (enc m) = some (pc', ls', sk', enc m) ∧ xcov lsd ls') (k : xw E d M t pc' lsd sk' m o) : xw E d M t pc lsc sk m o := by
  refine w_stp (fun ls hl => ?_) k
  obtain ⟨ls', h1, h2⟩ := h ls hl
  refine ⟨ls', ?_, h2⟩
  unfold am_stp
  simp only [hi, hr, hc]
  exact h1
theorem w_iconst {k : Int} (hi : (am_cd M).lookup pc = some (.iconst k)) (q : xw E d M t (pc + 1) lsc (.int (i32 k) :: sk) m o) : xw E d M t pc lsc sk m o := w_one hi rfl rfl (fun _ _ => rfl) q
theorem w_bipush {k : Int} (hi : (am_cd M).lookup pc = some (.bipush k)) (hv : (Int8.ofInt k).toInt32 = i32 k) (q : xw E d M t (pc + 2) lsc (.int (i32 k) :: sk) m o) : xw E d M t pc lsc sk m o := w_one hi rfl rfl (fun _ _ => by rw [← hv]; rfl) q
theorem w_sipush {k : Int} (hi : (am_cd M).lookup pc = some (.sipush k)) (hv : (Int16.ofInt k).toInt32 = i32 k) (q : xw E d M t (pc + 3) lsc (.int (i32 k) :: sk) m o) : xw E d M t pc lsc sk m o := w_one hi rfl rfl (fun _ _ => by rw [← hv]; rfl) q
theorem w_lconst {k : Fin 2} {z : Int} (hi : (am_cd M).lookup pc = some (.lconst k)) (hv : Int64.ofNat (k : Nat) = i64 z) (q : xw E d M t (pc + 1) lsc (.long (i64 z) :: sk) m o) : xw E d M t pc lsc sk m o := w_one hi rfl rfl (fun _ _ => by rw [← hv]; rfl) q
theorem w_ldcw {x j y : Nat} {z : Int} (hi : (am_cd M).lookup pc = some (.ldc_w x)) (hp : am_pl (am_o M) x = some (15, j, y)) (hv : am_ints[j]? = some (i32 z)) (q : xw E d M t (pc + 3) lsc (.int (i32 z) :: sk) m o) : xw E d M t pc lsc sk m o := w_one hi rfl rfl (fun _ _ => by simp only [am_one, hp, hv]) q
theorem w_ldc2w {x j y : Nat} {z : Int} (hi : (am_cd M).lookup pc = some (.ldc2_w x)) (hp : am_pl (am_o M) x = some (16, j, y)) (hv : am_lngs[j]? = some (i64 z)) (q : xw E d M t (pc + 3) lsc (.long (i64 z) :: sk) m o) : xw E d M t pc lsc sk m o := w_one hi rfl rfl (fun _ _ => by simp only [am_one, hp, hv]) q
theorem w_ldc {x j y : Nat} (hi : (am_cd M).lookup pc = some (.ldc x)) (hp : am_pl (am_o M) x = some (10, j, y)) (q : xw E d M t (pc + 2) lsc (.ref (1000000 + 2 * j) :: sk) m o) : xw E d M t pc lsc sk m o := w_one hi rfl rfl (fun _ _ => by simp only [am_one, hp]) q
theorem w_gstM {x j y : Nat} (hi : (am_cd M).lookup pc = some (.getstatic x)) (hp : am_pl (am_o M) x = some (17, j, y)) (q : xw E d M t (pc + 3) lsc (.ref 2000000 :: sk) m o) : xw E d M t pc lsc sk m o := w_one hi rfl rfl (fun _ _ => by simp only [am_one, hp]) q
theorem w_goto {off : Int} {tg : Nat} (hi : (am_cd M).lookup pc = some (.goto off)) (ht : am_to pc off = some tg) (q : xw E d M t tg lsc sk m o) : xw E d M t pc lsc sk m o := w_one hi rfl rfl (fun _ _ => by simp only [am_one, ht]) q
theorem w_dup {v : Value} (hi : (am_cd M).lookup pc = some .dup) (hv : v.category = 1) (q : xw E d M t (pc + 1) lsc (v :: v :: sk) m o) : xw E d M t pc lsc (v :: sk) m o := w_one hi rfl rfl (fun _ _ => by simp only [am_one, hv, if_true]) q
theorem w_pop {v : Value} (hi : (am_cd M).lookup pc = some .pop) (hv : v.category = 1) (q : xw E d M t (pc + 1) lsc sk m o) : xw E d M t pc lsc (v :: sk) m o := w_one hi rfl rfl (fun _ _ => by simp only [am_one, hv, if_true]) q
theorem w_dup2 {v w : Value} (hi : (am_cd M).lookup pc = some .dup2) (hv : v.category = 1) (hw : w.category = 1) (q : xw E d M t (pc + 1) lsc (v :: w :: v :: w :: sk) m o) : xw E d M t pc lsc (v :: w :: sk) m o := w_one hi rfl rfl (fun _ _ => by simp only [am_one]; rw [if_pos ⟨hv, hw⟩]) q
theorem w_dup2l {v : Value} (hi : (am_cd M).lookup pc = some .dup2) (hv : v.category = 2) (q : xw E d M t (pc + 1) lsc (v :: v :: sk) m o) : xw E d M t pc lsc (v :: sk) m o := w_one hi rfl rfl (fun _ _ => by
  cases sk with
  | nil => simp only [am_one, hv, if_true]
  | cons w r => simp only [am_one, hv]; rw [if_neg (fun z => absurd z.1 (by decide)), if_pos trivial]) q
theorem w_i2l {x x' : Int} (hi : (am_cd M).lookup pc = some .i2l) (hx : w32 x = x') (q : xw E d M t (pc + 1) lsc (.long (i64 x') :: sk) m o) : xw E d M t pc lsc (.int (i32 x) :: sk) m o := w_one hi rfl rfl (fun _ _ => by
  subst hx
  have e : i64 (w32 x) = (i32 x).toInt64 := by
    apply Int64.toInt_inj.mp
    rw [Int32.toInt_toInt64]
    have h1 := Int32.le_toInt (i32 x)
    have h2 := Int32.toInt_lt (i32 x)
    exact Int64.toInt_ofInt_of_le (by unfold w32; omega) (by unfold w32; omega)
  simp only [am_one, e]) q
theorem w_l2i {x : Int} (hi : (am_cd M).lookup pc = some .l2i) (q : xw E d M t (pc + 1) lsc (.int (i32 x) :: sk) m o) : xw E d M t pc lsc (.long (i64 x) :: sk) m o := w_one hi rfl rfl (fun _ _ => by
  have e : i32 x = (i64 x).toInt32 := Int64.toInt32_ofInt.symm
  simp only [am_one, e]) q
theorem w_iload_n {k : Fin 4} {x : Int32} (hi : (am_cd M).lookup pc = some (.iload_n k)) (hv : am_ld (k : Nat) lsc = some (.int x)) (q : xw E d M t (pc + 1) lsc (.int x :: sk) m o) : xw E d M t pc lsc sk m o := w_one hi rfl rfl (fun _ hc => by simp only [am_one, hc.2 _ _ hv]) q
theorem w_istore_n {k : Fin 4} {x : Int32} {lsd : am_L} (hi : (am_cd M).lookup pc = some (.istore_n k)) (hk : (k : Nat) < am_ml M) (hs : am_s1 (k : Nat) (.int x) lsc = lsd) (q : xw E d M t (pc + 1) lsd sk m o) : xw E d M t pc lsc (.int x :: sk) m o := w_oneL hi rfl rfl (fun ls hc => ⟨am_s1 (k : Nat) (.int x) ls, by simp only [am_one, if_pos hk], by rw [← hs]; exact xcov_s1 hc⟩) q
theorem w_iload {k : Nat} {x : Int32} (hi : (am_cd M).lookup pc = some (.iload k)) (hv : am_ld (k : Nat) lsc = some (.int x)) (q : xw E d M t (pc + 2) lsc (.int x :: sk) m o) : xw E d M t pc lsc sk m o := w_one hi rfl rfl (fun _ hc => by simp only [am_one, hc.2 _ _ hv]) q
theorem w_istore {k : Nat} {x : Int32} {lsd : am_L} (hi : (am_cd M).lookup pc = some (.istore k)) (hk : (k : Nat) < am_ml M) (hs : am_s1 (k : Nat) (.int x) lsc = lsd) (q : xw E d M t (pc + 2) lsd sk m o) : xw E d M t pc lsc (.int x :: sk) m o := w_oneL hi rfl rfl (fun ls hc => ⟨am_s1 (k : Nat) (.int x) ls, by simp only [am_one, if_pos hk], by rw [← hs]; exact xcov_s1 hc⟩) q
theorem w_lload_n {k : Fin 4} {x : Int64} (hi : (am_cd M).lookup pc = some (.lload_n k)) (hv : am_ld (k : Nat) lsc = some (.long x)) (q : xw E d M t (pc + 1) lsc (.long x :: sk) m o) : xw E d M t pc lsc sk m o := w_one hi rfl rfl (fun _ hc => by simp only [am_one, hc.2 _ _ hv]) q
theorem w_lstore_n {k : Fin 4} {x : Int64} {lsd : am_L} (hi : (am_cd M).lookup pc = some (.lstore_n k)) (hk : (k : Nat) + 1 < am_ml M) (hs : am_s2 (k : Nat) (.long x) lsc = lsd) (q : xw E d M t (pc + 1) lsd sk m o) : xw E d M t pc lsc (.long x :: sk) m o := w_oneL hi rfl rfl (fun ls hc => ⟨am_s2 (k : Nat) (.long x) ls, by simp only [am_one, if_pos hk], by rw [← hs]; exact xcov_s2 hc⟩) q
theorem w_lload {k : Nat} {x : Int64} (hi : (am_cd M).lookup pc = some (.lload k)) (hv : am_ld (k : Nat) lsc = some (.long x)) (q : xw E d M t (pc + 2) lsc (.long x :: sk) m o) : xw E d M t pc lsc sk m o := w_one hi rfl rfl (fun _ hc => by simp only [am_one, hc.2 _ _ hv]) q
theorem w_lstore {k : Nat} {x : Int64} {lsd : am_L} (hi : (am_cd M).lookup pc = some (.lstore k)) (hk : (k : Nat) + 1 < am_ml M) (hs : am_s2 (k : Nat) (.long x) lsc = lsd) (q : xw E d M t (pc + 2) lsd sk m o) : xw E d M t pc lsc (.long x :: sk) m o := w_oneL hi rfl rfl (fun ls hc => ⟨am_s2 (k : Nat) (.long x) ls, by simp only [am_one, if_pos hk], by rw [← hs]; exact xcov_s2 hc⟩) q
theorem w_aload_n {k : Fin 4} {x : Nat} (hi : (am_cd M).lookup pc = some (.aload_n k)) (hv : am_ld (k : Nat) lsc = some (.ref x)) (q : xw E d M t (pc + 1) lsc (.ref x :: sk) m o) : xw E d M t pc lsc sk m o := w_one hi rfl rfl (fun _ hc => by simp only [am_one, hc.2 _ _ hv]) q
theorem w_astore_n {k : Fin 4} {x : Nat} {lsd : am_L} (hi : (am_cd M).lookup pc = some (.astore_n k)) (hk : (k : Nat) < am_ml M) (hs : am_s1 (k : Nat) (.ref x) lsc = lsd) (q : xw E d M t (pc + 1) lsd sk m o) : xw E d M t pc lsc (.ref x :: sk) m o := w_oneL hi rfl rfl (fun ls hc => ⟨am_s1 (k : Nat) (.ref x) ls, by simp only [am_one, if_pos hk], by rw [← hs]; exact xcov_s1 hc⟩) q
theorem w_aload {k : Nat} {x : Nat} (hi : (am_cd M).lookup pc = some (.aload k)) (hv : am_ld (k : Nat) lsc = some (.ref x)) (q : xw E d M t (pc + 2) lsc (.ref x :: sk) m o) : xw E d M t pc lsc sk m o := w_one hi rfl rfl (fun _ hc => by simp only [am_one, hc.2 _ _ hv]) q
theorem w_astore {k : Nat} {x : Nat} {lsd : am_L} (hi : (am_cd M).lookup pc = some (.astore k)) (hk : (k : Nat) < am_ml M) (hs : am_s1 (k : Nat) (.ref x) lsc = lsd) (q : xw E d M t (pc + 2) lsd sk m o) : xw E d M t pc lsc (.ref x :: sk) m o := w_oneL hi rfl rfl (fun ls hc => ⟨am_s1 (k : Nat) (.ref x) ls, by simp only [am_one, if_pos hk], by rw [← hs]; exact xcov_s1 hc⟩) q
theorem w_iinc {k : Nat} {n x : Int} {lsd : am_L} (hi : (am_cd M).lookup pc = some (.iinc k n)) (hk : k < am_ml M) (hv : am_ld k lsc = some (.int (i32 x))) (hs : am_s1 k (.int (i32 (x + n))) lsc = lsd) (q : xw E d M t (pc + 3) lsd sk m o) : xw E d M t pc lsc sk m o := w_oneL hi rfl rfl (fun ls hc => ⟨am_s1 k (.int (i32 (x + n))) ls, by simp only [am_one, hc.2 _ _ hv, if_pos hk, i32, Int32.ofInt_add], by rw [← hs]; exact xcov_s1 hc⟩) q
theorem w_iadd {x y : Int} (hi : (am_cd M).lookup pc = some .iadd) (q : xw E d M t (pc + 1) lsc (.int (i32 (x + y)) :: sk) m o) : xw E d M t pc lsc (.int (i32 y) :: .int (i32 x) :: sk) m o := w_one hi rfl rfl (fun _ _ => by simp only [am_one, am_i2, i32, Int32.ofInt_add]) q
theorem w_isub {x y : Int} (hi : (am_cd M).lookup pc = some .isub) (q : xw E d M t (pc + 1) lsc (.int (i32 (x - y)) :: sk) m o) : xw E d M t pc lsc (.int (i32 y) :: .int (i32 x) :: sk) m o := w_one hi rfl rfl (fun _ _ => by simp only [am_one, am_i2, i32, Int32.ofInt_sub]) q
theorem w_imul {x y : Int} (hi : (am_cd M).lookup pc = some .imul) (q : xw E d M t (pc + 1) lsc (.int (i32 (x * y)) :: sk) m o) : xw E d M t pc lsc (.int (i32 y) :: .int (i32 x) :: sk) m o := w_one hi rfl rfl (fun _ _ => by simp only [am_one, am_i2, i32, Int32.ofInt_mul]) q
theorem w_iand {x y : Int} (hi : (am_cd M).lookup pc = some .iand) (q : xw E d M t (pc + 1) lsc (.int (i32 (ban x y)) :: sk) m o) : xw E d M t pc lsc (.int (i32 y) :: .int (i32 x) :: sk) m o := w_one hi rfl rfl (fun _ _ => by simp only [am_one, am_i2, i32, ban, Int32.ofInt_toInt]) q
theorem w_ior {x y : Int} (hi : (am_cd M).lookup pc = some .ior) (q : xw E d M t (pc + 1) lsc (.int (i32 (bor x y)) :: sk) m o) : xw E d M t pc lsc (.int (i32 y) :: .int (i32 x) :: sk) m o := w_one hi rfl rfl (fun _ _ => by simp only [am_one, am_i2, i32, bor, Int32.ofInt_toInt]) q
theorem w_ixor {x y : Int} (hi : (am_cd M).lookup pc = some .ixor) (q : xw E d M t (pc + 1) lsc (.int (i32 (bxo x y)) :: sk) m o) : xw E d M t pc lsc (.int (i32 y) :: .int (i32 x) :: sk) m o := w_one hi rfl rfl (fun _ _ => by simp only [am_one, am_i2, i32, bxo, Int32.ofInt_toInt]) q
theorem w_ishl {x y : Int} (hi : (am_cd M).lookup pc = some .ishl) (q : xw E d M t (pc + 1) lsc (.int (i32 (shl x y)) :: sk) m o) : xw E d M t pc lsc (.int (i32 y) :: .int (i32 x) :: sk) m o := w_one hi rfl rfl (fun _ _ => by simp only [am_one, am_i2, i32, shl, Int32.ofInt_toInt]) q
theorem w_ishr {x y : Int} (hi : (am_cd M).lookup pc = some .ishr) (q : xw E d M t (pc + 1) lsc (.int (i32 (shr x y)) :: sk) m o) : xw E d M t pc lsc (.int (i32 y) :: .int (i32 x) :: sk) m o := w_one hi rfl rfl (fun _ _ => by simp only [am_one, am_i2, i32, shr, Int32.ofInt_toInt]) q
theorem w_iushr {x y : Int} (hi : (am_cd M).lookup pc = some .iushr) (q : xw E d M t (pc + 1) lsc (.int (i32 (usr x y)) :: sk) m o) : xw E d M t pc lsc (.int (i32 y) :: .int (i32 x) :: sk) m o := w_one hi rfl rfl (fun _ _ => by simp only [am_one, am_i2, i32, usr, Int32.ofInt_toInt]) q
theorem w_idivc {x y : Int} (hi : (am_cd M).lookup pc = some .idiv) (hy : i32 y ≠ 0) (q : xw E d M t (pc + 1) lsc (.int (i32 (idv x y)) :: sk) m o) : xw E d M t pc lsc (.int (i32 y) :: .int (i32 x) :: sk) m o := w_one hi rfl rfl (fun _ _ => by simp only [am_one, am_i2, if_neg hy]; simp only [i32, idv, Int32.ofInt_toInt]) q
theorem w_idiv {x y : Int} {y' : Int} (hi : (am_cd M).lookup pc = some .idiv) (hy : w32 y = y') (q : xw E d M t (pc + 1) lsc (.int (i32 (idv x y)) :: sk) m o) : xw E d M t pc lsc (.int (i32 y) :: .int (i32 x) :: sk) m (if y' = 0 then none else o) := by
  subst hy
  split
  · exact w_none
  · next h => exact w_idivc hi (fun z => h (by unfold w32; rw [z]; rfl)) q
theorem w_iremc {x y : Int} (hi : (am_cd M).lookup pc = some .irem) (hy : i32 y ≠ 0) (q : xw E d M t (pc + 1) lsc (.int (i32 (irm x y)) :: sk) m o) : xw E d M t pc lsc (.int (i32 y) :: .int (i32 x) :: sk) m o := w_one hi rfl rfl (fun _ _ => by simp only [am_one, am_i2, if_neg hy]; simp only [i32, irm, Int32.ofInt_toInt]) q
theorem w_irem {x y : Int} {y' : Int} (hi : (am_cd M).lookup pc = some .irem) (hy : w32 y = y') (q : xw E d M t (pc + 1) lsc (.int (i32 (irm x y)) :: sk) m o) : xw E d M t pc lsc (.int (i32 y) :: .int (i32 x) :: sk) m (if y' = 0 then none else o) := by
  subst hy
  split
  · exact w_none
  · next h => exact w_iremc hi (fun z => h (by unfold w32; rw [z]; rfl)) q
theorem w_ladd {x y : Int} (hi : (am_cd M).lookup pc = some .ladd) (q : xw E d M t (pc + 1) lsc (.long (i64 (x + y)) :: sk) m o) : xw E d M t pc lsc (.long (i64 y) :: .long (i64 x) :: sk) m o := w_one hi rfl rfl (fun _ _ => by simp only [am_one, am_l2, i64, Int64.ofInt_add]) q
theorem w_lsub {x y : Int} (hi : (am_cd M).lookup pc = some .lsub) (q : xw E d M t (pc + 1) lsc (.long (i64 (x - y)) :: sk) m o) : xw E d M t pc lsc (.long (i64 y) :: .long (i64 x) :: sk) m o := w_one hi rfl rfl (fun _ _ => by simp only [am_one, am_l2, i64, Int64.ofInt_sub]) q
theorem w_lmul {x y : Int} (hi : (am_cd M).lookup pc = some .lmul) (q : xw E d M t (pc + 1) lsc (.long (i64 (x * y)) :: sk) m o) : xw E d M t pc lsc (.long (i64 y) :: .long (i64 x) :: sk) m o := w_one hi rfl rfl (fun _ _ => by simp only [am_one, am_l2, i64, Int64.ofInt_mul]) q
theorem w_land {x y : Int} (hi : (am_cd M).lookup pc = some .land) (q : xw E d M t (pc + 1) lsc (.long (i64 (lan x y)) :: sk) m o) : xw E d M t pc lsc (.long (i64 y) :: .long (i64 x) :: sk) m o := w_one hi rfl rfl (fun _ _ => by simp only [am_one, am_l2, i64, lan, Int64.ofInt_toInt]) q
theorem w_lor {x y : Int} (hi : (am_cd M).lookup pc = some .lor) (q : xw E d M t (pc + 1) lsc (.long (i64 (lbo x y)) :: sk) m o) : xw E d M t pc lsc (.long (i64 y) :: .long (i64 x) :: sk) m o := w_one hi rfl rfl (fun _ _ => by simp only [am_one, am_l2, i64, lbo, Int64.ofInt_toInt]) q
theorem w_lshl {x y : Int} (hi : (am_cd M).lookup pc = some .lshl) (q : xw E d M t (pc + 1) lsc (.long (i64 (lsl x y)) :: sk) m o) : xw E d M t pc lsc (.int (i32 y) :: .long (i64 x) :: sk) m o := w_one hi rfl rfl (fun _ _ => by simp only [am_one, i64, i32, lsl, Int64.ofInt_toInt]) q
theorem w_lshr {x y : Int} (hi : (am_cd M).lookup pc = some .lshr) (q : xw E d M t (pc + 1) lsc (.long (i64 (lsr x y)) :: sk) m o) : xw E d M t pc lsc (.int (i32 y) :: .long (i64 x) :: sk) m o := w_one hi rfl rfl (fun _ _ => by simp only [am_one, i64, i32, lsr, Int64.ofInt_toInt]) q
theorem w_ldivc {x y : Int} (hi : (am_cd M).lookup pc = some .ldiv) (hy : i64 y ≠ 0) (q : xw E d M t (pc + 1) lsc (.long (i64 (ldv x y)) :: sk) m o) : xw E d M t pc lsc (.long (i64 y) :: .long (i64 x) :: sk) m o := w_one hi rfl rfl (fun _ _ => by simp only [am_one, am_l2, if_neg hy]; simp only [i64, ldv, Int64.ofInt_toInt]) q
theorem w_ldiv {x y : Int} {y' : Int} (hi : (am_cd M).lookup pc = some .ldiv) (hy : w64 y = y') (q : xw E d M t (pc + 1) lsc (.long (i64 (ldv x y)) :: sk) m o) : xw E d M t pc lsc (.long (i64 y) :: .long (i64 x) :: sk) m (if y' = 0 then none else o) := by
  subst hy
  split
  · exact w_none
  · next h => exact w_ldivc hi (fun z => h (by unfold w64; rw [z]; rfl)) q
theorem w_lremc {x y : Int} (hi : (am_cd M).lookup pc = some .lrem) (hy : i64 y ≠ 0) (q : xw E d M t (pc + 1) lsc (.long (i64 (lrm x y)) :: sk) m o) : xw E d M t pc lsc (.long (i64 y) :: .long (i64 x) :: sk) m o := w_one hi rfl rfl (fun _ _ => by simp only [am_one, am_l2, if_neg hy]; simp only [i64, lrm, Int64.ofInt_toInt]) q
theorem w_lrem {x y : Int} {y' : Int} (hi : (am_cd M).lookup pc = some .lrem) (hy : w64 y = y') (q : xw E d M t (pc + 1) lsc (.long (i64 (lrm x y)) :: sk) m o) : xw E d M t pc lsc (.long (i64 y) :: .long (i64 x) :: sk) m (if y' = 0 then none else o) := by
  subst hy
  split
  · exact w_none
  · next h => exact w_lremc hi (fun z => h (by unfold w64; rw [z]; rfl)) q
theorem w_icmp_lt {x y x' y' : Int} {off : Int} {tg : Nat} (hi : (am_cd M).lookup pc = some (.if_icmp .lt off)) (ht : am_to pc off = some tg) (hx : w32 x = x') (hy : w32 y = y') (h1 : xw E d M t tg lsc sk m A) (h2 : xw E d M t (pc + 3) lsc sk m B) : xw E d M t pc lsc (.int (i32 y) :: .int (i32 x) :: sk) m (if x' < y' then A else B) := by
  subst hx hy
  refine w_one (pc' := if am_cc2 .lt (i32 x) (i32 y) = true then tg else pc + 3) (sk' := sk) hi rfl rfl (fun _ _ => by simp only [am_one, ht]) ?_
  have hc : am_cc2 .lt (i32 x) (i32 y) = true ↔ _ := cc_lt
  by_cases h : am_cc2 .lt (i32 x) (i32 y) = true
  · rw [if_pos h]
    have h' := hc.mp h
    rw [if_pos (by exact h')]
    exact h1
  · rw [if_neg h]
    have h' := fun z => h (hc.mpr z)
    rw [if_neg (by exact h')]
    exact h2
theorem w_if_lt {x x' : Int} {off : Int} {tg : Nat} (hi : (am_cd M).lookup pc = some (.ifCond .lt off)) (ht : am_to pc off = some tg) (hx : w32 x = x') (h1 : xw E d M t tg lsc sk m A) (h2 : xw E d M t (pc + 3) lsc sk m B) : xw E d M t pc lsc (.int (i32 x) :: sk) m (if x' < 0 then A else B) := by
  subst hx
  refine w_one (pc' := if am_cc2 .lt (i32 x) 0 = true then tg else pc + 3) (sk' := sk) hi rfl rfl (fun _ _ => by simp only [am_one, ht]) ?_
  have hc : am_cc2 .lt (i32 x) 0 = true ↔ _ := cc_lt
  by_cases h : am_cc2 .lt (i32 x) 0 = true
  · rw [if_pos h]
    have h' := hc.mp h
    rw [if_pos (by exact h')]
    exact h1
  · rw [if_neg h]
    have h' := fun z => h (hc.mpr z)
    rw [if_neg (by exact h')]
    exact h2
theorem w_icmp_ge {x y x' y' : Int} {off : Int} {tg : Nat} (hi : (am_cd M).lookup pc = some (.if_icmp .ge off)) (ht : am_to pc off = some tg) (hx : w32 x = x') (hy : w32 y = y') (h1 : xw E d M t tg lsc sk m A) (h2 : xw E d M t (pc + 3) lsc sk m B) : xw E d M t pc lsc (.int (i32 y) :: .int (i32 x) :: sk) m (if y' ≤ x' then A else B) := by
  subst hx hy
  refine w_one (pc' := if am_cc2 .ge (i32 x) (i32 y) = true then tg else pc + 3) (sk' := sk) hi rfl rfl (fun _ _ => by simp only [am_one, ht]) ?_
  have hc : am_cc2 .ge (i32 x) (i32 y) = true ↔ _ := cc_ge
  by_cases h : am_cc2 .ge (i32 x) (i32 y) = true
  · rw [if_pos h]
    have h' := hc.mp h
    rw [if_pos (by exact h')]
    exact h1
  · rw [if_neg h]
    have h' := fun z => h (hc.mpr z)
    rw [if_neg (by exact h')]
    exact h2
theorem w_if_ge {x x' : Int} {off : Int} {tg : Nat} (hi : (am_cd M).lookup pc = some (.ifCond .ge off)) (ht : am_to pc off = some tg) (hx : w32 x = x') (h1 : xw E d M t tg lsc sk m A) (h2 : xw E d M t (pc + 3) lsc sk m B) : xw E d M t pc lsc (.int (i32 x) :: sk) m (if 0 ≤ x' then A else B) := by
  subst hx
  refine w_one (pc' := if am_cc2 .ge (i32 x) 0 = true then tg else pc + 3) (sk' := sk) hi rfl rfl (fun _ _ => by simp only [am_one, ht]) ?_
  have hc : am_cc2 .ge (i32 x) 0 = true ↔ _ := cc_ge
  by_cases h : am_cc2 .ge (i32 x) 0 = true
  · rw [if_pos h]
    have h' := hc.mp h
    rw [if_pos (by exact h')]
    exact h1
  · rw [if_neg h]
    have h' := fun z => h (hc.mpr z)
    rw [if_neg (by exact h')]
    exact h2
theorem w_icmp_gt {x y x' y' : Int} {off : Int} {tg : Nat} (hi : (am_cd M).lookup pc = some (.if_icmp .gt off)) (ht : am_to pc off = some tg) (hx : w32 x = x') (hy : w32 y = y') (h1 : xw E d M t tg lsc sk m A) (h2 : xw E d M t (pc + 3) lsc sk m B) : xw E d M t pc lsc (.int (i32 y) :: .int (i32 x) :: sk) m (if y' < x' then A else B) := by
  subst hx hy
  refine w_one (pc' := if am_cc2 .gt (i32 x) (i32 y) = true then tg else pc + 3) (sk' := sk) hi rfl rfl (fun _ _ => by simp only [am_one, ht]) ?_
  have hc : am_cc2 .gt (i32 x) (i32 y) = true ↔ _ := cc_gt
  by_cases h : am_cc2 .gt (i32 x) (i32 y) = true
  · rw [if_pos h]
    have h' := hc.mp h
    rw [if_pos (by exact h')]
    exact h1
  · rw [if_neg h]
    have h' := fun z => h (hc.mpr z)
    rw [if_neg (by exact h')]
    exact h2
theorem w_if_gt {x x' : Int} {off : Int} {tg : Nat} (hi : (am_cd M).lookup pc = some (.ifCond .gt off)) (ht : am_to pc off = some tg) (hx : w32 x = x') (h1 : xw E d M t tg lsc sk m A) (h2 : xw E d M t (pc + 3) lsc sk m B) : xw E d M t pc lsc (.int (i32 x) :: sk) m (if 0 < x' then A else B) := by
  subst hx
  refine w_one (pc' := if am_cc2 .gt (i32 x) 0 = true then tg else pc + 3) (sk' := sk) hi rfl rfl (fun _ _ => by simp only [am_one, ht]) ?_
  have hc : am_cc2 .gt (i32 x) 0 = true ↔ _ := cc_gt
  by_cases h : am_cc2 .gt (i32 x) 0 = true
  · rw [if_pos h]
    have h' := hc.mp h
    rw [if_pos (by exact h')]
    exact h1
  · rw [if_neg h]
    have h' := fun z => h (hc.mpr z)
    rw [if_neg (by exact h')]
    exact h2
theorem w_icmp_le {x y x' y' : Int} {off : Int} {tg : Nat} (hi : (am_cd M).lookup pc = some (.if_icmp .le off)) (ht : am_to pc off = some tg) (hx : w32 x = x') (hy : w32 y = y') (h1 : xw E d M t tg lsc sk m A) (h2 : xw E d M t (pc + 3) lsc sk m B) : xw E d M t pc lsc (.int (i32 y) :: .int (i32 x) :: sk) m (if x' ≤ y' then A else B) := by
  subst hx hy
  refine w_one (pc' := if am_cc2 .le (i32 x) (i32 y) = true then tg else pc + 3) (sk' := sk) hi rfl rfl (fun _ _ => by simp only [am_one, ht]) ?_
  have hc : am_cc2 .le (i32 x) (i32 y) = true ↔ _ := cc_le
  by_cases h : am_cc2 .le (i32 x) (i32 y) = true
  · rw [if_pos h]
    have h' := hc.mp h
    rw [if_pos (by exact h')]
    exact h1
  · rw [if_neg h]
    have h' := fun z => h (hc.mpr z)
    rw [if_neg (by exact h')]
    exact h2
theorem w_if_le {x x' : Int} {off : Int} {tg : Nat} (hi : (am_cd M).lookup pc = some (.ifCond .le off)) (ht : am_to pc off = some tg) (hx : w32 x = x') (h1 : xw E d M t tg lsc sk m A) (h2 : xw E d M t (pc + 3) lsc sk m B) : xw E d M t pc lsc (.int (i32 x) :: sk) m (if x' ≤ 0 then A else B) := by
  subst hx
  refine w_one (pc' := if am_cc2 .le (i32 x) 0 = true then tg else pc + 3) (sk' := sk) hi rfl rfl (fun _ _ => by simp only [am_one, ht]) ?_
  have hc : am_cc2 .le (i32 x) 0 = true ↔ _ := cc_le
  by_cases h : am_cc2 .le (i32 x) 0 = true
  · rw [if_pos h]
    have h' := hc.mp h
    rw [if_pos (by exact h')]
    exact h1
  · rw [if_neg h]
    have h' := fun z => h (hc.mpr z)
    rw [if_neg (by exact h')]
    exact h2
theorem w_icmp_eq {x y x' y' : Int} {off : Int} {tg : Nat} (hi : (am_cd M).lookup pc = some (.if_icmp .eq off)) (ht : am_to pc off = some tg) (hx : w32 x = x') (hy : w32 y = y') (h1 : xw E d M t tg lsc sk m A) (h2 : xw E d M t (pc + 3) lsc sk m B) : xw E d M t pc lsc (.int (i32 y) :: .int (i32 x) :: sk) m (if x' = y' then A else B) := by
  subst hx hy
  refine w_one (pc' := if am_cc2 .eq (i32 x) (i32 y) = true then tg else pc + 3) (sk' := sk) hi rfl rfl (fun _ _ => by simp only [am_one, ht]) ?_
  have hc : am_cc2 .eq (i32 x) (i32 y) = true ↔ _ := cc_eq
  by_cases h : am_cc2 .eq (i32 x) (i32 y) = true
  · rw [if_pos h]
    have h' := hc.mp h
    rw [if_pos (by exact h')]
    exact h1
  · rw [if_neg h]
    have h' := fun z => h (hc.mpr z)
    rw [if_neg (by exact h')]
    exact h2
theorem w_if_eq {x x' : Int} {off : Int} {tg : Nat} (hi : (am_cd M).lookup pc = some (.ifCond .eq off)) (ht : am_to pc off = some tg) (hx : w32 x = x') (h1 : xw E d M t tg lsc sk m A) (h2 : xw E d M t (pc + 3) lsc sk m B) : xw E d M t pc lsc (.int (i32 x) :: sk) m (if x' = 0 then A else B) := by
  subst hx
  refine w_one (pc' := if am_cc2 .eq (i32 x) 0 = true then tg else pc + 3) (sk' := sk) hi rfl rfl (fun _ _ => by simp only [am_one, ht]) ?_
  have hc : am_cc2 .eq (i32 x) 0 = true ↔ _ := cc_eq
  by_cases h : am_cc2 .eq (i32 x) 0 = true
  · rw [if_pos h]
    have h' := hc.mp h
    rw [if_pos (by exact h')]
    exact h1
  · rw [if_neg h]
    have h' := fun z => h (hc.mpr z)
    rw [if_neg (by exact h')]
    exact h2
theorem w_icmp_ne {x y x' y' : Int} {off : Int} {tg : Nat} (hi : (am_cd M).lookup pc = some (.if_icmp .ne off)) (ht : am_to pc off = some tg) (hx : w32 x = x') (hy : w32 y = y') (h1 : xw E d M t tg lsc sk m A) (h2 : xw E d M t (pc + 3) lsc sk m B) : xw E d M t pc lsc (.int (i32 y) :: .int (i32 x) :: sk) m (if x' = y' then B else A) := by
  subst hx hy
  refine w_one (pc' := if am_cc2 .ne (i32 x) (i32 y) = true then tg else pc + 3) (sk' := sk) hi rfl rfl (fun _ _ => by simp only [am_one, ht]) ?_
  have hc : am_cc2 .ne (i32 x) (i32 y) = true ↔ _ := cc_ne
  by_cases h : am_cc2 .ne (i32 x) (i32 y) = true
  · rw [if_pos h]
    have h' := hc.mp h
    rw [if_neg (by exact h')]
    exact h1
  · rw [if_neg h]
    have h' := fun z => h (hc.mpr z)
    rw [if_pos (by exact Classical.not_not.mp h')]
    exact h2
theorem w_if_ne {x x' : Int} {off : Int} {tg : Nat} (hi : (am_cd M).lookup pc = some (.ifCond .ne off)) (ht : am_to pc off = some tg) (hx : w32 x = x') (h1 : xw E d M t tg lsc sk m A) (h2 : xw E d M t (pc + 3) lsc sk m B) : xw E d M t pc lsc (.int (i32 x) :: sk) m (if x' = 0 then B else A) := by
  subst hx
  refine w_one (pc' := if am_cc2 .ne (i32 x) 0 = true then tg else pc + 3) (sk' := sk) hi rfl rfl (fun _ _ => by simp only [am_one, ht]) ?_
  have hc : am_cc2 .ne (i32 x) 0 = true ↔ _ := cc_ne
  by_cases h : am_cc2 .ne (i32 x) 0 = true
  · rw [if_pos h]
    have h' := hc.mp h
    rw [if_neg (by exact h')]
    exact h1
  · rw [if_neg h]
    have h' := fun z => h (hc.mpr z)
    rw [if_pos (by exact Classical.not_not.mp h')]
    exact h2
theorem w_lcmp0 {x y : Int} (hi : (am_cd M).lookup pc = some .lcmp) (q : xw E d M t (pc + 1) lsc (.int (lg_cmp (i64 x) (i64 y)) :: sk) m o) : xw E d M t pc lsc (.long (i64 y) :: .long (i64 x) :: sk) m o := w_one hi rfl rfl (fun _ _ => by simp only [am_one]) q
theorem lg_cmp_t (x y : Int) : (lg_cmp (i64 x) (i64 y)).toInt = if w64 x < w64 y then -1 else if w64 x = w64 y then 0 else 1 := by
  unfold lg_cmp w64
  simp only [gt_iff_lt, Int64.lt_iff_toInt_lt, ← Int64.toInt_inj]
  by_cases h1 : (i64 y).toInt < (i64 x).toInt
  · rw [if_pos h1, if_neg (by omega), if_neg (by omega)]
    rfl
  · rw [if_neg h1]
    by_cases h2 : (i64 x).toInt = (i64 y).toInt
    · rw [if_pos h2, if_neg (by omega), if_pos h2]
      rfl
    · rw [if_neg h2, if_pos (by omega)]
      rfl
theorem w_lcmp_lt {x y x' y' : Int} {off : Int} {tg : Nat} (hi : (am_cd M).lookup pc = some .lcmp) (hi1 : (am_cd M).lookup (pc + 1) = some (.ifCond .lt off)) (ht : am_to (pc + 1) off = some tg) (hx : w64 x = x') (hy : w64 y = y') (h1 : xw E d M t tg lsc sk m A) (h2 : xw E d M t (pc + 4) lsc sk m B) : xw E d M t pc lsc (.long (i64 y) :: .long (i64 x) :: sk) m (if x' < y' then A else B) := by
  subst hx hy
  refine w_lcmp0 hi ?_
  refine w_one (pc' := if am_cc2 .lt (lg_cmp (i64 x) (i64 y)) 0 = true then tg else pc + 4) (sk' := sk) hi1 rfl rfl (fun _ _ => by simp only [am_one, ht]) ?_
  have hc : am_cc2 .lt (lg_cmp (i64 x) (i64 y)) 0 = true ↔ _ := cc_lt
  rw [lg_cmp_t, show (0 : Int32).toInt = 0 from rfl] at hc
  by_cases h : am_cc2 .lt (lg_cmp (i64 x) (i64 y)) 0 = true
  · rw [if_pos h]
    have h' := hc.mp h
    rw [if_pos (by revert h'; split <;> (try split) <;> omega)]
    exact h1
  · rw [if_neg h]
    have h' := fun z => h (hc.mpr z)
    rw [if_neg (by intro z; apply h'; split <;> (try split) <;> omega)]
    exact h2
theorem w_lcmp_ge {x y x' y' : Int} {off : Int} {tg : Nat} (hi : (am_cd M).lookup pc = some .lcmp) (hi1 : (am_cd M).lookup (pc + 1) = some (.ifCond .ge off)) (ht : am_to (pc + 1) off = some tg) (hx : w64 x = x') (hy : w64 y = y') (h1 : xw E d M t tg lsc sk m A) (h2 : xw E d M t (pc + 4) lsc sk m B) : xw E d M t pc lsc (.long (i64 y) :: .long (i64 x) :: sk) m (if y' ≤ x' then A else B) := by
  subst hx hy
  refine w_lcmp0 hi ?_
  refine w_one (pc' := if am_cc2 .ge (lg_cmp (i64 x) (i64 y)) 0 = true then tg else pc + 4) (sk' := sk) hi1 rfl rfl (fun _ _ => by simp only [am_one, ht]) ?_
  have hc : am_cc2 .ge (lg_cmp (i64 x) (i64 y)) 0 = true ↔ _ := cc_ge
  rw [lg_cmp_t, show (0 : Int32).toInt = 0 from rfl] at hc
  by_cases h : am_cc2 .ge (lg_cmp (i64 x) (i64 y)) 0 = true
  · rw [if_pos h]
    have h' := hc.mp h
    rw [if_pos (by revert h'; split <;> (try split) <;> omega)]
    exact h1
  · rw [if_neg h]
    have h' := fun z => h (hc.mpr z)
    rw [if_neg (by intro z; apply h'; split <;> (try split) <;> omega)]
    exact h2
theorem w_lcmp_gt {x y x' y' : Int} {off : Int} {tg : Nat} (hi : (am_cd M).lookup pc = some .lcmp) (hi1 : (am_cd M).lookup (pc + 1) = some (.ifCond .gt off)) (ht : am_to (pc + 1) off = some tg) (hx : w64 x = x') (hy : w64 y = y') (h1 : xw E d M t tg lsc sk m A) (h2 : xw E d M t (pc + 4) lsc sk m B) : xw E d M t pc lsc (.long (i64 y) :: .long (i64 x) :: sk) m (if y' < x' then A else B) := by
  subst hx hy
  refine w_lcmp0 hi ?_
  refine w_one (pc' := if am_cc2 .gt (lg_cmp (i64 x) (i64 y)) 0 = true then tg else pc + 4) (sk' := sk) hi1 rfl rfl (fun _ _ => by simp only [am_one, ht]) ?_
  have hc : am_cc2 .gt (lg_cmp (i64 x) (i64 y)) 0 = true ↔ _ := cc_gt
  rw [lg_cmp_t, show (0 : Int32).toInt = 0 from rfl] at hc
  by_cases h : am_cc2 .gt (lg_cmp (i64 x) (i64 y)) 0 = true
  · rw [if_pos h]
    have h' := hc.mp h
    rw [if_pos (by revert h'; split <;> (try split) <;> omega)]
    exact h1
  · rw [if_neg h]
    have h' := fun z => h (hc.mpr z)
    rw [if_neg (by intro z; apply h'; split <;> (try split) <;> omega)]
    exact h2
theorem w_lcmp_le {x y x' y' : Int} {off : Int} {tg : Nat} (hi : (am_cd M).lookup pc = some .lcmp) (hi1 : (am_cd M).lookup (pc + 1) = some (.ifCond .le off)) (ht : am_to (pc + 1) off = some tg) (hx : w64 x = x') (hy : w64 y = y') (h1 : xw E d M t tg lsc sk m A) (h2 : xw E d M t (pc + 4) lsc sk m B) : xw E d M t pc lsc (.long (i64 y) :: .long (i64 x) :: sk) m (if x' ≤ y' then A else B) := by
  subst hx hy
  refine w_lcmp0 hi ?_
  refine w_one (pc' := if am_cc2 .le (lg_cmp (i64 x) (i64 y)) 0 = true then tg else pc + 4) (sk' := sk) hi1 rfl rfl (fun _ _ => by simp only [am_one, ht]) ?_
  have hc : am_cc2 .le (lg_cmp (i64 x) (i64 y)) 0 = true ↔ _ := cc_le
  rw [lg_cmp_t, show (0 : Int32).toInt = 0 from rfl] at hc
  by_cases h : am_cc2 .le (lg_cmp (i64 x) (i64 y)) 0 = true
  · rw [if_pos h]
    have h' := hc.mp h
    rw [if_pos (by revert h'; split <;> (try split) <;> omega)]
    exact h1
  · rw [if_neg h]
    have h' := fun z => h (hc.mpr z)
    rw [if_neg (by intro z; apply h'; split <;> (try split) <;> omega)]
    exact h2
theorem w_lcmp_eq {x y x' y' : Int} {off : Int} {tg : Nat} (hi : (am_cd M).lookup pc = some .lcmp) (hi1 : (am_cd M).lookup (pc + 1) = some (.ifCond .eq off)) (ht : am_to (pc + 1) off = some tg) (hx : w64 x = x') (hy : w64 y = y') (h1 : xw E d M t tg lsc sk m A) (h2 : xw E d M t (pc + 4) lsc sk m B) : xw E d M t pc lsc (.long (i64 y) :: .long (i64 x) :: sk) m (if x' = y' then A else B) := by
  subst hx hy
  refine w_lcmp0 hi ?_
  refine w_one (pc' := if am_cc2 .eq (lg_cmp (i64 x) (i64 y)) 0 = true then tg else pc + 4) (sk' := sk) hi1 rfl rfl (fun _ _ => by simp only [am_one, ht]) ?_
  have hc : am_cc2 .eq (lg_cmp (i64 x) (i64 y)) 0 = true ↔ _ := cc_eq
  rw [lg_cmp_t, show (0 : Int32).toInt = 0 from rfl] at hc
  by_cases h : am_cc2 .eq (lg_cmp (i64 x) (i64 y)) 0 = true
  · rw [if_pos h]
    have h' := hc.mp h
    rw [if_pos (by revert h'; split <;> (try split) <;> omega)]
    exact h1
  · rw [if_neg h]
    have h' := fun z => h (hc.mpr z)
    rw [if_neg (by intro z; apply h'; split <;> (try split) <;> omega)]
    exact h2
theorem w_lcmp_ne {x y x' y' : Int} {off : Int} {tg : Nat} (hi : (am_cd M).lookup pc = some .lcmp) (hi1 : (am_cd M).lookup (pc + 1) = some (.ifCond .ne off)) (ht : am_to (pc + 1) off = some tg) (hx : w64 x = x') (hy : w64 y = y') (h1 : xw E d M t tg lsc sk m A) (h2 : xw E d M t (pc + 4) lsc sk m B) : xw E d M t pc lsc (.long (i64 y) :: .long (i64 x) :: sk) m (if x' = y' then B else A) := by
  subst hx hy
  refine w_lcmp0 hi ?_
  refine w_one (pc' := if am_cc2 .ne (lg_cmp (i64 x) (i64 y)) 0 = true then tg else pc + 4) (sk' := sk) hi1 rfl rfl (fun _ _ => by simp only [am_one, ht]) ?_
  have hc : am_cc2 .ne (lg_cmp (i64 x) (i64 y)) 0 = true ↔ _ := cc_ne
  rw [lg_cmp_t, show (0 : Int32).toInt = 0 from rfl] at hc
  by_cases h : am_cc2 .ne (lg_cmp (i64 x) (i64 y)) 0 = true
  · rw [if_pos h]
    have h' := hc.mp h
    rw [if_neg (by intro z; rw [if_neg (by omega), if_pos z] at h'; exact h' rfl)]
    exact h1
  · rw [if_neg h]
    have h' := fun z => h (hc.mpr z)
    rw [if_pos (by apply Classical.byContradiction; intro z; apply h'; split <;> (try split) <;> omega)]
    exact h2
end XW

