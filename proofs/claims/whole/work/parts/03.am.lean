/-! A MACHINE OF OUR OWN over lists: locals, stack, cells by their numbers. It runs the tables of 02; part 05 shows that the claim's machine does what it does. -/
abbrev am_L : Type := List (Nat × Value)
abbrev am_H : Type := List va_E
abbrev am_C : Type := Nat × am_L × List Value × am_H
/-- the arrays that are there before the law begins and are only read: (0 int, 4 byte), length, contents -/
abbrev am_Env : Type := Nat → Option (Nat × Nat × (Nat → Int32))
def am_ld (i : Nat) : am_L → Option Value
  | [] => none
  | (j, v) :: t => if j = i then some v else am_ld i t
def am_s1 (i : Nat) (v : Value) (ls : am_L) : am_L := (i, v) :: ls.filter (fun q => !(q.1 == i) && !(q.1 + 1 == i && q.2.category == 2))
def am_s2 (i : Nat) (v : Value) (ls : am_L) : am_L := (i, v) :: ls.filter (fun q => !(q.1 == i) && (!(q.1 == i + 1) && !(q.1 + 1 == i && q.2.category == 2)))
/-- x below, y on top -/
def am_i2 (i : Instr) (x y : Int32) : Option Int32 := match i with
  | .iadd => some (x + y)
  | .isub => some (x - y)
  | .imul => some (x * y)
  | .iand => some (x &&& y)
  | .ior => some (x ||| y)
  | .ixor => some (x ^^^ y)
  | .ishl => some (x <<< (y &&& 31))
  | .ishr => some (x >>> (y &&& 31))
  | .iushr => some (x.toUInt32 >>> (y.toUInt32 &&& Int32.toUInt32 31)).toInt32
  | .idiv => if y = 0 then none else some (x / y)
  | .irem => if y = 0 then none else some (x - x / y * y)
  | _ => none
def am_l2 (i : Instr) (x y : Int64) : Option Int64 := match i with
  | .ladd => some (x + y)
  | .lsub => some (x - y)
  | .lmul => some (x * y)
  | .land => some (x &&& y)
  | .lor => some (x ||| y)
  | .ldiv => if y = 0 then none else some (x / y)
  | .lrem => if y = 0 then none else some (x - x / y * y)
  | _ => none
def am_cc2 (c : ClassFile.Cond) (x y : Int32) : Bool := match c with
  | .eq => decide (x = y)
  | .ne => decide (¬ x = y)
  | .lt => decide (x < y)
  | .ge => decide (y ≤ x)
  | .gt => decide (y < x)
  | .le => decide (x ≤ y)
/-- where a jump comes to -/
def am_to (pc : Nat) (off : Int) : Option Nat := if 0 ≤ (pc : Int) + off then some ((pc : Int) + off).toNat else none
/-- may the value stand in a field of that type -/
def am_fit (ty : FieldType) (v : Value) : Bool := match v with
  | .ref _ => match ty with
    | .object _ => true
    | .array _ => true
    | _ => false
  | .null => match ty with
    | .object _ => true
    | .array _ => true
    | _ => false
  | .int x => match ty with
    | .int => true
    | _ => decide (narrow ty (.int x) = .int x) && fits ty (.int x)
  | .long _ => match ty with
    | .long => true
    | _ => false
  | _ => false
def am_nar (ty : FieldType) (x : Int32) : Bool := match ty with
  | .int => true
  | _ => decide (narrow ty (.int x) = .int x)
/-- a new object's fields -/
def am_new (ci : Nat) : Option (List Value) := match am_cl[ci]?, am_cy[ci]? with
  | some q, some ty => some ((List.range q.2.2).map (fun j => defaultValue (ty j)))
  | _, _ => none
/-- a new array -/
def am_na0 (t : ArrayType) (n : Nat) : Option va_E := match t with
  | .int => some (.inl (0, n, .inl (fun _ => 0)))
  | .long => some (.inl (1, n, .inr (.inl (fun _ => 0))))
  | .char => some (.inl (2, n, .inl (fun _ => 0)))
  | _ => none
def am_in (j : Int32) (n : Nat) : Bool := decide (¬ (j < 0 ∨ n ≤ j.toNatClampNeg))
/-- an instruction that is neither call nor return, and makes no cell -/
def am_one (E : am_Env) (M : am_M) (i : Instr) (pc : Nat) (ls : am_L) (st : List Value) (hp : am_H) : Option am_C := match i with
  | .iconst k => some (pc + 1, ls, .int (Int32.ofInt k) :: st, hp)
  | .bipush k => some (pc + 2, ls, .int (Int8.ofInt k).toInt32 :: st, hp)
  | .sipush k => some (pc + 3, ls, .int (Int16.ofInt k).toInt32 :: st, hp)
  | .lconst k => some (pc + 1, ls, .long (Int64.ofNat (k : Nat)) :: st, hp)
  | .iload_n k => match am_ld k ls with
    | some (.int x) => some (pc + 1, ls, .int x :: st, hp)
    | _ => none
  | .iload k => match am_ld k ls with
    | some (.int x) => some (pc + 2, ls, .int x :: st, hp)
    | _ => none
  | .lload_n k => match am_ld k ls with
    | some (.long x) => some (pc + 1, ls, .long x :: st, hp)
    | _ => none
  | .lload k => match am_ld k ls with
    | some (.long x) => some (pc + 2, ls, .long x :: st, hp)
    | _ => none
  | .aload_n k => match am_ld k ls with
    | some (.ref x) => some (pc + 1, ls, .ref x :: st, hp)
    | _ => none
  | .aload k => match am_ld k ls with
    | some (.ref x) => some (pc + 2, ls, .ref x :: st, hp)
    | _ => none
  | .istore_n k => match st with
    | .int x :: r => if (k : Nat) < am_ml M then some (pc + 1, am_s1 k (.int x) ls, r, hp) else none
    | _ => none
  | .istore k => match st with
    | .int x :: r => if k < am_ml M then some (pc + 2, am_s1 k (.int x) ls, r, hp) else none
    | _ => none
  | .lstore_n k => match st with
    | .long x :: r => if (k : Nat) + 1 < am_ml M then some (pc + 1, am_s2 k (.long x) ls, r, hp) else none
    | _ => none
  | .lstore k => match st with
    | .long x :: r => if k + 1 < am_ml M then some (pc + 2, am_s2 k (.long x) ls, r, hp) else none
    | _ => none
  | .astore_n k => match st with
    | .ref x :: r => if (k : Nat) < am_ml M then some (pc + 1, am_s1 k (.ref x) ls, r, hp) else none
    | _ => none
  | .astore k => match st with
    | .ref x :: r => if k < am_ml M then some (pc + 2, am_s1 k (.ref x) ls, r, hp) else none
    | _ => none
  | .iinc k n => match am_ld k ls with
    | some (.int x) => if k < am_ml M then some (pc + 3, am_s1 k (.int (x + Int32.ofInt n)) ls, st, hp) else none
    | _ => none
  | .iadd | .isub | .imul | .iand | .ior | .ixor | .ishl | .ishr | .iushr | .idiv | .irem => match st with
    | .int y :: .int x :: r => match am_i2 i x y with
      | some z => some (pc + 1, ls, .int z :: r, hp)
      | none => none
    | _ => none
  | .ladd | .lsub | .lmul | .land | .lor | .ldiv | .lrem => match st with
    | .long y :: .long x :: r => match am_l2 i x y with
      | some z => some (pc + 1, ls, .long z :: r, hp)
      | none => none
    | _ => none
  | .lshl => match st with
    | .int y :: .long x :: r => some (pc + 1, ls, .long (x <<< (y.toInt64 &&& 63)) :: r, hp)
    | _ => none
  | .lshr => match st with
    | .int y :: .long x :: r => some (pc + 1, ls, .long (x >>> (y.toInt64 &&& 63)) :: r, hp)
    | _ => none
  | .lcmp => match st with
    | .long y :: .long x :: r => some (pc + 1, ls, .int (lg_cmp x y) :: r, hp)
    | _ => none
  | .i2l => match st with
    | .int x :: r => some (pc + 1, ls, .long x.toInt64 :: r, hp)
    | _ => none
  | .l2i => match st with
    | .long x :: r => some (pc + 1, ls, .int x.toInt32 :: r, hp)
    | _ => none
  | .i2c => match st with
    | .int x :: r => some (pc + 1, ls, .int (x.toUInt32 % 65536).toInt32 :: r, hp)
    | _ => none
  | .dup => match st with
    | v :: r => if v.category = 1 then some (pc + 1, ls, v :: v :: r, hp) else none
    | _ => none
  | .pop => match st with
    | v :: r => if v.category = 1 then some (pc + 1, ls, r, hp) else none
    | _ => none
  | .dup2 => match st with
    | v :: w :: r => if v.category = 1 ∧ w.category = 1 then some (pc + 1, ls, v :: w :: v :: w :: r, hp) else if v.category = 2 then some (pc + 1, ls, v :: v :: w :: r, hp) else none
    | [v] => if v.category = 2 then some (pc + 1, ls, [v, v], hp) else none
    | _ => none
  | .ifCond cd off => match st, am_to pc off with
    | .int x :: r, some t => some (if am_cc2 cd x 0 = true then t else pc + 3, ls, r, hp)
    | _, _ => none
  | .if_icmp cd off => match st, am_to pc off with
    | .int y :: .int x :: r, some t => some (if am_cc2 cd x y = true then t else pc + 3, ls, r, hp)
    | _, _ => none
  | .goto off => match am_to pc off with
    | some t => some (t, ls, st, hp)
    | none => none
  | .tableswitch dflt lo hi offs => match st with
    | .int x :: r => if x.toInt < lo ∨ hi < x.toInt then (match am_to pc dflt with | some t => some (t, ls, r, hp) | none => none) else (match offs[(x.toInt - lo).toNat]? with
      | some off => (match am_to pc off with | some t => some (t, ls, r, hp) | none => none)
      | none => none)
    | _ => none
  | .lookupswitch dflt ps => match st with
    | .int x :: r => if (ps.toList.zip (ps.toList.drop 1)).all (fun (a, next) => a.1 < next.1) = true then (match am_to pc (Op.lookupswitch.offset ps.toList dflt x.toInt) with | some t => some (t, ls, r, hp) | none => none) else none
    | _ => none
  | .getfield x => match st, am_pl (am_o M) x with
    | .ref a :: r, some (0, ci, k) => if a < 1000000 then (match hp[a]? with
      | some (.inr (cj, fs)) => if cj = ci then (match fs[k]? with | some v => some (pc + 3, ls, v :: r, hp) | none => none) else none
      | _ => none) else none
    | .ref a :: r, some (12, _, _) => if 1000000 ≤ a ∧ (a - 1000000) % 2 = 0 ∧ (a - 1000000) / 2 < am_lit.length then some (pc + 3, ls, .ref (a + 1) :: r, hp) else none
    | .ref a :: r, some (13, _, _) => if 1000000 ≤ a ∧ (a - 1000000) % 2 = 0 ∧ (a - 1000000) / 2 < am_lit.length then some (pc + 3, ls, .int 0 :: r, hp) else none
    | _, _ => none
  | .putfield x => match st, am_pl (am_o M) x with
    | v :: .ref a :: r, some (0, ci, k) => if a < 1000000 then (match hp[a]?, am_cl[ci]?, am_cy[ci]? with
      | some (.inr (cj, fs)), some q, some ty => if cj = ci ∧ k < fs.length ∧ am_fit (ty k) v = true ∧ (am_ini M = true ∧ (q.2.1 k).1 = am_n (am_o M) ∨ (q.2.1 k).2.2.2 = false) then some (pc + 3, ls, r, hp.set a (.inr (ci, fs.set k v))) else none
      | _, _, _ => none) else none
    | _, _ => none
  | .getstatic x => match am_pl (am_o M) x with
    | some (11, _, _) => some (pc + 3, ls, .int 1 :: st, hp)
    | some (17, _, _) => some (pc + 3, ls, .ref 2000000 :: st, hp)
    | some (18, _, _) => match E 2000002 with
      | some _ => some (pc + 3, ls, .ref 2000003 :: st, hp)
      | none => some (pc + 3, ls, .null :: st, hp)
    | _ => none
  | .ldc x => match am_pl (am_o M) x with
    | some (10, j, _) => some (pc + 2, ls, .ref (1000000 + 2 * j) :: st, hp)
    | _ => none
  | .ldc_w x => match am_pl (am_o M) x with
    | some (15, j, _) => match am_ints[j]? with
      | some v => some (pc + 3, ls, .int v :: st, hp)
      | none => none
    | _ => none
  | .ldc2_w x => match am_pl (am_o M) x with
    | some (16, j, _) => match am_lngs[j]? with
      | some v => some (pc + 3, ls, .long v :: st, hp)
      | none => none
    | _ => none
  | .iaload => match st with
    | .int j :: .ref a :: r => if a < 1000000 then (match hp[a]? with
      | some (.inl (0, n, .inl f)) => if am_in j n = true then some (pc + 1, ls, .int (f j.toNatClampNeg) :: r, hp) else none
      | _ => none) else (match E a with
      | some (0, n, f) => if am_in j n = true then some (pc + 1, ls, .int (f j.toNatClampNeg) :: r, hp) else none
      | _ => none)
    | _ => none
  | .laload => match st with
    | .int j :: .ref a :: r => if a < 1000000 then (match hp[a]? with
      | some (.inl (1, n, .inr (.inl f))) => if am_in j n = true then some (pc + 1, ls, .long (f j.toNatClampNeg) :: r, hp) else none
      | _ => none) else none
    | _ => none
  | .caload => match st with
    | .int j :: .ref a :: r => if a < 1000000 then (match hp[a]? with
      | some (.inl (2, n, .inl f)) => if am_in j n = true then some (pc + 1, ls, .int (f j.toNatClampNeg) :: r, hp) else none
      | _ => none) else none
    | _ => none
  | .aaload => match st with
    | .int j :: .ref a :: r => if a < 1000000 then (match hp[a]? with
      | some (.inl (3, n, .inr (.inr (.inr (.inr f))))) => if am_in j n = true then (match f j.toNatClampNeg with | some q => some (pc + 1, ls, .ref q :: r, hp) | none => none) else none
      | _ => none) else none
    | _ => none
  | .baload => match st with
    | .int j :: .ref a :: r => match E a with
      | some (4, n, f) => if 1000000 ≤ a ∧ am_in j n = true then some (pc + 1, ls, .int (f j.toNatClampNeg) :: r, hp) else none
      | _ => none
    | _ => none
  | .iastore => match st with
    | .int x :: .int j :: .ref a :: r => if a < 1000000 then (match hp[a]? with
      | some (.inl (0, n, .inl f)) => if am_in j n = true then some (pc + 1, ls, r, hp.set a (.inl (0, n, .inl (upd f j.toNatClampNeg x)))) else none
      | _ => none) else none
    | _ => none
  | .lastore => match st with
    | .long x :: .int j :: .ref a :: r => if a < 1000000 then (match hp[a]? with
      | some (.inl (1, n, .inr (.inl f))) => if am_in j n = true then some (pc + 1, ls, r, hp.set a (.inl (1, n, .inr (.inl (vp_updL f j.toNatClampNeg x))))) else none
      | _ => none) else none
    | _ => none
  | .castore => match st with
    | .int x :: .int j :: .ref a :: r => if a < 1000000 then (match hp[a]? with
      | some (.inl (2, n, .inl f)) => if am_in j n = true then some (pc + 1, ls, r, hp.set a (.inl (2, n, .inl (upd f j.toNatClampNeg (vp_nar .char x))))) else none
      | _ => none) else none
    | _ => none
  | .arraylength => match st with
    | .ref a :: r => if a < 1000000 then (match hp[a]? with
      | some (.inl (t, n, _)) => if t < 4 then some (pc + 1, ls, .int (Int32.ofNat n) :: r, hp) else none
      | _ => none) else (match E a with
      | some (_, n, _) => some (pc + 1, ls, .int (Int32.ofNat n) :: r, hp)
      | none => none)
    | _ => none
  | .invokestatic x => match st, am_pl (am_o M) x with
    | .int n :: .int dp :: .ref a :: .int sp :: .ref a0 :: r, some (8, _, _) => if a < 1000000 ∧ a0 < 1000000 then (match hp[a0]?, hp[a]? with
      | some (.inl (0, n0, .inl f)), some (.inl (0, n1, .inl g)) => if (¬ sp < 0) ∧ (¬ dp < 0) ∧ (¬ n < 0) ∧ sp.toNatClampNeg + n.toNatClampNeg ≤ n0 ∧ dp.toNatClampNeg + n.toNatClampNeg ≤ n1 ∧ (r.map fun v => v.category).sum ≤ 8 then some (pc + 3, ls, r, hp.set a (.inl (0, n1, .inl (va_cpy f g sp.toNatClampNeg dp.toNatClampNeg n.toNatClampNeg)))) else none
      | _, _ => none) else none
    | _, _ => none
  | .invokespecial x => match st, am_pl (am_o M) x with
    | .ref a :: r, some (7, _, _) => if (r.map fun v => v.category).sum ≤ 8 then some (pc + 3, ls, r, hp) else none
    | _, _ => none
  | _ => none
/-- an instruction that makes cells -/
def am_mk (M : am_M) (i : Instr) (pc : Nat) (ls : am_L) (st : List Value) (hp : am_H) : Option am_C := match i with
  | .new x => match am_pl (am_o M) x with
    | some (9, ci, _) => match am_new ci with
      | some fs => if hp.length < 1000000 then some (pc + 3, ls, .ref hp.length :: st, hp ++ [.inr (ci, fs)]) else none
      | none => none
    | _ => none
  | .newarray t => match st with
    | .int n :: r => if ¬ n < 0 ∧ n.toNatClampNeg ≤ 1000000 ∧ hp.length < 1000000 then (match am_na0 t n.toNatClampNeg with
      | some e => some (pc + 2, ls, .ref hp.length :: r, hp ++ [e])
      | none => none) else none
    | _ => none
  | .multianewarray x 2 => match st, am_pl (am_o M) x with
    | .int k :: .int n :: r, some (14, _, _) => if ¬ n < 0 ∧ ¬ k < 0 ∧ n.toNatClampNeg ≤ 1000 ∧ k.toNatClampNeg ≤ 1000 ∧ hp.length < 900000 then
        some (pc + 4, ls, .ref hp.length :: r, (hp ++ [.inl (3, n.toNatClampNeg, .inr (.inr (.inr (.inr (fun i => if i < n.toNatClampNeg then some (hp.length + 1 + i) else none)))))]) ++ List.replicate n.toNatClampNeg (.inl (0, k.toNatClampNeg, .inl (fun _ => 0)))) else none
    | _, _ => none
  | _ => none
/-- a return: the answer -/
def am_ret (M : am_M) (i : Instr) (st : List Value) : Option (Option Value) := match i with
  | .return_ => match st, am_rt M with
    | [], none => some none
    | _, _ => none
  | .ireturn => match st, am_rt M with
    | [.int x], some ty => if am_nar ty x = true then some (some (.int x)) else none
    | _, _ => none
  | .lreturn => match st, am_rt M with
    | [.long x], some .long => some (some (.long x))
    | _, _ => none
  | .areturn => match st, am_rt M with
    | [.ref x], some (.object _) => some (some (.ref x))
    | [.ref x], some (.array _) => some (some (.ref x))
    | _, _ => none
  | _ => none
/-- a call: the number of the method called, whether an object takes it -/
def am_cal (M : am_M) (i : Instr) : Option (Nat × Bool) := match i with
  | .invokevirtual x => match am_pl (am_o M) x with
    | some (1, j, _) => some (j, true)
    | some (4, j, _) => some (j, true)
    | _ => none
  | .invokestatic x => match am_pl (am_o M) x with
    | some (2, j, _) => some (j, false)
    | some (5, j, _) => some (j, false)
    | _ => none
  | .invokespecial x => match am_pl (am_o M) x with
    | some (3, j, _) => some (j, true)
    | some (6, j, _) => some (j, true)
    | _ => none
  | _ => none
/-- is the object that takes a call one of the method's own class -/
def am_rcv (N : am_M) (as : List Value) (hp : am_H) : Bool := match as with
  | .ref a :: _ => if a < 1000000 then (match hp[a]? with
    | some (.inr (ci, _)) => decide (ci = am_o N)
    | _ => false) else decide (am_o N = 16 ∧ (a - 1000000) % 2 = 0 ∧ (a - 1000000) / 2 < am_lit.length)
  | _ => false
/-- the run of a method's body: its answer and the cells behind it; d bounds the depth of calls -/
def am_run (E : am_Env) : Nat → Nat → am_M → Nat → am_L → List Value → am_H → Option (Option Value × am_H)
  | 0, _, _, _, _, _, _ => none
  | fu + 1, d, M, pc, ls, st, hp => match (am_cd M).lookup pc with
    | none => none
    | some i => match am_ret M i st with
      | some r => some (r, hp)
      | none => match am_cal M i with
        | some (j, v) => match d, am_tab j with
          | d' + 1, some N => if am_na N ≤ st.length ∧ ((st.drop (am_na N)).map fun v => v.category).sum ≤ 8 ∧ (v = true → am_rcv N (st.take (am_na N)).reverse hp = true) ∧ (lg_sl (st.take (am_na N)).reverse).length ≤ am_ml N then
              (match am_run E fu d' N 0 (lv_args 0 (st.take (am_na N)).reverse) [] hp with
              | some (r, hp') => am_run E fu d M (pc + 3) ls (r.toList ++ st.drop (am_na N)) hp'
              | none => none) else none
          | _, _ => none
        | none => match am_one E M i pc ls st hp with
          | some (pc', ls', st', hp') => am_run E fu d M pc' ls' st' hp'
          | none => match am_mk M i pc ls st hp with
            | some (pc', ls', st', hp') => am_run E fu d M pc' ls' st' hp'
            | none => none
