/-! the words behind the tables: each entry of a pool stands on words of lw_tbl, each row of code is what decode says -/
def am_G : List Cond := lw_tbl.filter goodWord
/-- a word by its place -/
def am_at (p : Nat) : Option Cond := (([k2_sels lw_privs, tables_1_1, tables_1_2, tables_1_3, tables_1_4, tables_1_5, tables_1_6, tables_1_7, tables_1_8, tables_1_9] : List (List Cond)).getD (p / 1000) [])[p % 1000]?
theorem am_at_mem {p : Nat} {w : Cond} (h : am_at p = some w) : w ∈ lw_tbl := by
  unfold am_at at h
  have h1 := List.mem_of_getElem? h
  generalize p / 1000 = k at h1
  unfold lw_tbl tables_1
  match k, h1 with
  | 0, h1 => exact List.mem_append_left _ h1
  | 1, h1 => exact List.mem_append_right _ (List.mem_append_left _ h1)
  | 2, h1 => exact List.mem_append_right _ (List.mem_append_right _ (List.mem_append_left _ h1))
  | 3, h1 => exact List.mem_append_right _ (List.mem_append_right _ (List.mem_append_right _ (List.mem_append_left _ h1)))
  | 4, h1 => exact List.mem_append_right _ (List.mem_append_right _ (List.mem_append_right _ (List.mem_append_right _ (List.mem_append_left _ h1))))
  | 5, h1 => exact List.mem_append_right _ (List.mem_append_right _ (List.mem_append_right _ (List.mem_append_right _ (List.mem_append_right _ (List.mem_append_left _ h1)))))
  | 6, h1 => exact List.mem_append_right _ (List.mem_append_right _ (List.mem_append_right _ (List.mem_append_right _ (List.mem_append_right _ (List.mem_append_right _ (List.mem_append_left _ h1))))))
  | 7, h1 => exact List.mem_append_right _ (List.mem_append_right _ (List.mem_append_right _ (List.mem_append_right _ (List.mem_append_right _ (List.mem_append_right _ (List.mem_append_right _ (List.mem_append_left _ h1)))))))
  | 8, h1 => exact List.mem_append_right _ (List.mem_append_right _ (List.mem_append_right _ (List.mem_append_right _ (List.mem_append_right _ (List.mem_append_right _ (List.mem_append_right _ (List.mem_append_right _ (List.mem_append_left _ h1))))))))
  | 9, h1 => exact List.mem_append_right _ (List.mem_append_right _ (List.mem_append_right _ (List.mem_append_right _ (List.mem_append_right _ (List.mem_append_right _ (List.mem_append_right _ (List.mem_append_right _ (List.mem_append_right _ (h1)))))))))
  | k + 10, h1 => simp at h1
theorem am_mem {i : Nat} {w : Cond} (h : am_at i = some w) (hg : goodWord w = true) : w ∈ am_G := List.mem_filter.mpr ⟨am_at_mem h, hg⟩
/-- the words that an entry needs -/
def am_ws (o x : Nat) (q : Nat × Nat × Nat) : List Cond := match q with
  | (0, ci, k) => match am_cl[ci]? with
    | some r => [.fieldLink (am_n o) x (r.2.1 k).1 (r.2.1 k).2.1 (r.2.1 k).2.2.1]
    | none => []
  | (1, j, _) => match am_tab j with
    | some N => [.methodLink (am_n o) x (am_y N), .instanceMethod (am_y N), .selects (am_y N).cls (am_y N) (am_y N), .initialized (am_y N).cls]
    | none => []
  | (2, j, _) => match am_tab j with
    | some N => [.methodLink (am_n o) x (am_y N), .static (am_y N), .initialized (am_y N).cls]
    | none => []
  | (3, j, _) => match am_tab j with
    | some N => [.methodLink (am_n o) x (am_y N), .instanceMethod (am_y N), .initialized (am_y N).cls]
    | none => []
  | (4, j, _) => match am_tab j with
    | some N => [.instanceMethod (am_y N), .selects (am_y N).cls (am_y N) (am_y N), .initialized (am_y N).cls]
    | none => []
  | (5, j, _) => match am_tab j with
    | some N => [.static (am_y N), .initialized (am_y N).cls]
    | none => []
  | (6, j, _) => match am_tab j with
    | some N => [.instanceMethod (am_y N), .initialized (am_y N).cls]
    | none => []
  | (7, _, _) => [.methodLink (am_n o) x objectInit, .instanceMethod objectInit]
  | (8, _, _) => [.methodLink (am_n o) x arraycopyName, .native arraycopyName, .static arraycopyName, .initialized "java/lang/System"]
  | (9, ci, _) => match am_cl[ci]? with
    | some r => [.classLink (am_n o) x r.1, .instantiable r.1 r.2.2, .initialized r.1]
    | none => []
  | (11, _, _) => [.fieldLink (am_n o) x "java/lang/String" "COMPACT_STRINGS" "Z"]
  | (18, _, _) => [.fieldLink (am_n o) x "jdk/internal/util/Preconditions" "SIOOBE_FORMATTER" "Ljava/util/function/BiFunction;"]
  | (12, _, _) => [.fieldLink (am_n o) x "java/lang/String" "value" "[B"]
  | (13, _, _) => [.fieldLink (am_n o) x "java/lang/String" "coder" "B"]
  | (14, _, _) => [.classLink (am_n o) x ("[" ++ (FieldType.array .int).toString)]
  | (15, j, _) => match am_ints[j]? with
    | some v => [.constant (am_n o) x v]
    | none => []
  | (16, j, _) => match am_lngs[j]? with
    | some v => [.constantLong (am_n o) x v]
    | none => []
  | _ => []
/-- what else must be so of a method that is called -/
def am_sdN (N : am_M) (n : Nat) : Bool := decide (plainFor (am_y N) = true ∧ (am_y N).cls ≠ "java/lang/invoke/MethodHandle" ∧ (am_y N).cls ≠ "java/lang/invoke/VarHandle" ∧ (parseMethodDescriptor (am_y N).desc).map (fun d => d.parameters.length) = some n ∧ am_n (am_o N) = (am_y N).cls ∧ am_ml N ≤ 20 ∧ (am_ini N = true → (am_y N).name = "<init>"))
def am_sd (o x : Nat) (q : Nat × Nat × Nat) : Bool := match q with
  | (0, ci, k) => match am_cl[ci]?, am_cy[ci]? with
    | some r, some _ => decide (k < r.2.2)
    | _, _ => false
  | (1, j, _) => match am_tab j with
    | some N => am_sdN N (am_na N - 1) && decide (0 < am_na N) && (decide (am_o N = 16) || match am_cl[am_o N]? with | some r => decide (r.1 = (am_y N).cls) | none => false)
    | none => false
  | (2, j, _) => match am_tab j with
    | some N => am_sdN N (am_na N)
    | none => false
  | (3, j, _) => match am_tab j with
    | some N => am_sdN N (am_na N - 1) && decide (0 < am_na N ∧ (am_y N).name = "<init>" ∧ am_rt N = none)
    | none => false
  | (4, j, b) => match am_tab j, am_nst[b]? with
    | some N, some w => am_sdN N (am_na N - 1) && decide (0 < am_na N) && (match am_cl[am_o N]? with | some r => decide (r.1 = (am_y N).cls) | none => false) && decide (w = .methodLinkNest (am_n o) x (am_y N) "LockOrchestra")
    | _, _ => false
  | (5, j, b) => match am_tab j, am_nst[b]? with
    | some N, some w => am_sdN N (am_na N) && decide (w = .methodLinkNest (am_n o) x (am_y N) "LockOrchestra")
    | _, _ => false
  | (6, j, b) => match am_tab j, am_nst[b]? with
    | some N, some w => am_sdN N (am_na N - 1) && decide (0 < am_na N ∧ (am_y N).name = "<init>" ∧ am_rt N = none) && decide (w = .methodLinkNest (am_n o) x (am_y N) "LockOrchestra")
    | _, _ => false
  | (9, ci, _) => match am_cl[ci]?, am_cy[ci]? with
    | some _, some _ => true
    | _, _ => false
  | (10, j, _) => match am_lit[j]? with
    | some r => decide (r.1 = am_n o ∧ r.2.1 = x)
    | none => false
  | (17, _, _) => decide (am_n o = "LockOrchestra$Hall" ∧ x = 91)
  | _ => true
def am_ck1 (o : Nat) (e : (Nat × Nat × Nat × Nat) × List Nat) : Bool := decide ((am_ws o e.1.1 e.1.2).length = e.2.length) && ((am_ws o e.1.1 e.1.2).zip e.2).all (fun q => decide (am_at q.2 = some q.1) && goodWord q.1) && am_sd o e.1.1 e.1.2
def am_ckl (o : Nat) (l : List ((Nat × Nat × Nat × Nat) × List Nat)) : Bool := l.all (am_ck1 o)
theorem am_cut {o : Nat} {l : List ((Nat × Nat × Nat × Nat) × List Nat)} (b : Nat) (h1 : am_ckl o (l.take b) = true) (h2 : am_ckl o (l.drop b) = true) : am_ckl o l = true := by
  rw [← List.take_append_drop b l]
  unfold am_ckl at *
  rw [List.all_append, h1, h2]
  rfl
theorem am_ckl_ok {o x : Nat} {q : Nat × Nat × Nat} {p : List (Nat × Nat × Nat × Nat)} {qs : List (List Nat)} (h : am_ckl o (p.zip qs) = true) (hl : p.length = qs.length) (hm : (x, q) ∈ p) : (∀ w ∈ am_ws o x q, w ∈ am_G) ∧ am_sd o x q = true := by
  obtain ⟨i, hi⟩ := List.mem_iff_getElem?.mp hm
  have hlt : i < qs.length := by rw [← hl]; exact (List.getElem?_eq_some_iff.mp hi).1
  obtain ⟨ps, hps⟩ : ∃ ps, qs[i]? = some ps := ⟨_, List.getElem?_eq_getElem hlt⟩
  have hz : (p.zip qs)[i]? = some ((x, q), ps) := by rw [List.getElem?_zip_eq_some]; exact ⟨hi, hps⟩
  have h1 := List.all_eq_true.mp h _ (List.mem_of_getElem? hz)
  simp only [am_ck1, Bool.and_eq_true, decide_eq_true_eq] at h1
  obtain ⟨⟨h2, h3⟩, h4⟩ := h1
  refine ⟨fun w hw => ?_, h4⟩
  obtain ⟨k, hk⟩ := List.mem_iff_getElem?.mp hw
  have hkl : k < ps.length := by rw [← h2]; exact (List.getElem?_eq_some_iff.mp hk).1
  have hz2 : ((am_ws o x q).zip ps)[k]? = some (w, ps[k]) := by rw [List.getElem?_zip_eq_some]; exact ⟨hk, List.getElem?_eq_getElem hkl⟩
  have h5 := List.all_eq_true.mp h3 _ (List.mem_of_getElem? hz2)
  simp only [Bool.and_eq_true, decide_eq_true_eq] at h5
  exact am_mem h5.1 h5.2
theorem am_lkm {x : Nat} {q : Nat × Nat × Nat} : ∀ {l : List (Nat × Nat × Nat × Nat)}, l.lookup x = some q → (x, q) ∈ l
  | [], h => by simp at h
  | (y, r) :: t, h => by
    rw [List.lookup_cons] at h
    cases hxy : x == y with
    | true =>
      rw [hxy] at h
      have e1 : x = y := by simpa using hxy
      have e2 : r = q := by simpa using h
      rw [e1, e2]
      exact List.mem_cons_self
    | false =>
      rw [hxy] at h
      exact List.mem_cons_of_mem _ (am_lkm h)
/-- how long an instruction is; 0: it says itself -/
def am_ln (i : Instr) : Nat := match i with
  | .bipush _ | .iload _ | .lload _ | .aload _ | .istore _ | .lstore _ | .astore _ | .ldc _ | .newarray _ => 2
  | .sipush _ | .iinc _ _ | .ifCond _ _ | .if_icmp _ _ | .goto _ | .getfield _ | .putfield _ | .getstatic _ | .ldc_w _ | .ldc2_w _ | .invokevirtual _ | .invokespecial _ | .invokestatic _ | .new _ => 3
  | .multianewarray _ _ => 4
  | .tableswitch _ _ _ _ | .lookupswitch _ _ => 0
  | _ => 1
def am_okD1 (cc : ByteArray) (e : Nat × Instr) : Bool := match decode cc e.1 with
  | .ok (i, n) => decide (i = e.2) && (decide (am_ln i = 0) || decide (n = am_ln i))
  | .error _ => false
def am_okD (M : am_M) : Bool := (am_cd M).all (am_okD1 (am_cc M))
theorem am_okD1_ok {cc : ByteArray} {pc : Nat} {i : Instr} (h : am_okD1 cc (pc, i) = true) : ∃ n, decode cc pc = .ok (i, n) ∧ (am_ln i = 0 ∨ n = am_ln i) := by
  unfold am_okD1 at h
  cases hd : decode cc pc with
  | error e => rw [show (pc, i).1 = pc from rfl, hd] at h; cases h
  | ok r =>
    obtain ⟨j, n⟩ := r
    rw [show (pc, i).1 = pc from rfl, hd] at h
    simp only [Bool.and_eq_true, Bool.or_eq_true, decide_eq_true_eq] at h
    obtain ⟨rfl, h2⟩ := h
    exact ⟨n, rfl, h2⟩
theorem am_lkc {x : Nat} {q : Instr} : ∀ {l : List (Nat × Instr)}, l.lookup x = some q → (x, q) ∈ l
  | [], h => by simp at h
  | (y, r) :: t, h => by
    rw [List.lookup_cons] at h
    cases hxy : x == y with
    | true =>
      rw [hxy] at h
      have e1 : x = y := by simpa using hxy
      have e2 : r = q := by simpa using h
      rw [e1, e2]
      exact List.mem_cons_self
    | false =>
      rw [hxy] at h
      exact List.mem_cons_of_mem _ (am_lkc h)
theorem am_dec {M : am_M} (hM : am_okD M = true) {pc : Nat} {i : Instr} (h : (am_cd M).lookup pc = some i) : ∃ n, decode (am_cc M) pc = .ok (i, n) ∧ (am_ln i = 0 ∨ n = am_ln i) := am_okD1_ok (List.all_eq_true.mp hM _ (am_lkc h))
theorem am_cutD {cc : ByteArray} {l : List (Nat × Instr)} (b : Nat) (h1 : (l.take b).all (am_okD1 cc) = true) (h2 : (l.drop b).all (am_okD1 cc) = true) : l.all (am_okD1 cc) = true := by
  rw [← List.take_append_drop b l, List.all_append, h1, h2]
  rfl
def am_q0 : List (List Nat) := [[1106, 1028], [1107], [1108], [1109], [1110], [2098, 1001], [2095, 1001], [4010, 4012, 21, 1007], [4014, 4015, 1007], [4037, 4039, 22, 1007], [4041, 4042, 1007], [4049, 4050, 1007], [4052, 4053, 1007], [4017, 3238, 3239, 1012], [4018, 4019, 1020], [4024, 4025, 4026, 1012], [4028, 4029, 4030, 1012], [4032, 4033, 4034, 1012], [4044, 3055, 3056, 1012], [4045, 4046, 4047, 1012], [4055, 4056, 1007], [4066, 4067, 1014], [4069, 2118, 1014], [4070, 2121, 1014], [4058], [4059], [4060, 4061, 1014], [4063, 4064, 1014]]
theorem am_k0_0 : am_ckl 0 ((am_p0.zip am_q0).take 30) = true := by decide +kernel
theorem am_e0 : am_ckl 0 ((am_p0.zip am_q0).drop 30) = true := by decide +kernel
theorem am_k0 : am_ckl 0 (am_p0.zip am_q0) = true := (am_cut 30 am_k0_0 am_e0)
theorem am_lq0 : am_p0.length = am_q0.length := by decide +kernel
def am_q1 : List (List Nat) := [[1218, 1028], [1219, 1102, 1007], [1104, 1007], [1221], [1222], [1223], [1224], [1225], [1226], [1227], [1228], [1229], [1230], [1231], [1232], [1233], [1234], [1235], [2135, 2136, 2137, 1007], [2139, 2140, 1015], [3028, 3029, 3030, 1012], [3032, 2227, 2228, 1012], [2098, 1001], [3054, 3055, 3056, 1012], [2095, 1001], [], [4190, 4191, 4192, 1012], [3016, 3017, 3018, 1012], [4115, 4116, 4117, 1012], [4036, 3238, 3239, 1012], [4166, 4029, 4030, 1012], [4176, 4033, 4034, 1012], [4164, 4046, 4047, 1012], [4165, 4025, 4026, 1012], [4167, 4168, 4169, 1012], [4171, 4099, 4100, 1012], [4172, 4173, 4174, 1012], [4005, 4006, 4007, 1007]]
theorem am_k1_0 : am_ckl 1 ((am_p1.zip am_q1).take 30) = true := by decide +kernel
theorem am_k1_1 : am_ckl 1 (((am_p1.zip am_q1).drop 30).take 30) = true := by decide +kernel
theorem am_e1 : am_ckl 1 (((am_p1.zip am_q1).drop 30).drop 30) = true := by decide +kernel
theorem am_k1 : am_ckl 1 (am_p1.zip am_q1) = true := (am_cut 30 am_k1_0 (am_cut 30 am_k1_1 am_e1))
theorem am_lq1 : am_p1.length = am_q1.length := by decide +kernel
def am_q2 : List (List Nat) := [[1074, 1028], [1088], [1075, 1076, 1005], [1077, 1078, 1005], [1089], [2131, 2132, 2133, 1012], [2142, 2143, 2144, 1003], [2161, 2162, 2163, 1003], [], [2166, 2167, 2168, 1003], [2218, 2220, 2, 1004], [], [3059, 3061, 5, 1004], [], [3078, 3080, 7, 1004], [], [3181, 3183, 20, 1004], [], [3035, 3036, 3037, 1003], [3040, 3041, 3042, 1003], [3191, 3192, 3193, 1012], [3195, 3122, 3123, 1003], [2233, 2234, 2235, 1003], [3020, 3021, 3022, 1003], [2226, 2227, 2228, 1012], [3001, 2147, 2148, 1003], [3002, 3003, 3004, 1003], [3012, 3013, 3014, 1012], [3024, 3025, 3026, 1012], [3072, 3017, 3018, 1012], [2222, 2224, 3, 1004], [], [], [], [3046, 3047, 3048, 1003], [3050, 3051, 3052, 1012], [], [3064, 3065, 3066, 1003], [3068, 3070, 6, 1004], [3073, 3074, 3075, 1012], [], [3083, 3084, 3085, 1012], [3087, 3088, 3089, 1007], [3093, 8, 1005], [3176, 3177, 3178, 1012], [], [3186, 3187, 3188, 1012]]
theorem am_k2_0 : am_ckl 2 ((am_p2.zip am_q2).take 30) = true := by decide +kernel
theorem am_k2_1 : am_ckl 2 (((am_p2.zip am_q2).drop 30).take 30) = true := by decide +kernel
theorem am_e2 : am_ckl 2 (((am_p2.zip am_q2).drop 30).drop 30) = true := by decide +kernel
theorem am_k2 : am_ckl 2 (am_p2.zip am_q2) = true := (am_cut 30 am_k2_0 (am_cut 30 am_k2_1 am_e2))
theorem am_lq2 : am_p2.length = am_q2.length := by decide +kernel
def am_q3 : List (List Nat) := [[1181, 1028], [1182], [1183], [1184], [5062, 2087, 2088, 1002], [5063, 2152, 2153, 1002], [5064, 3055, 3056, 1012], [5065, 4187, 4188, 1012], [2098, 1001], [5067, 2114, 2115, 1002], [2095, 1001], [5081, 4108, 4109, 1012], [5082, 4161, 4162, 1012], [5083, 4002, 4003, 1012]]
theorem am_k3_0 : am_ckl 3 ((am_p3.zip am_q3).take 30) = true := by decide +kernel
theorem am_e3 : am_ckl 3 ((am_p3.zip am_q3).drop 30) = true := by decide +kernel
theorem am_k3 : am_ckl 3 (am_p3.zip am_q3) = true := (am_cut 30 am_k3_0 am_e3)
theorem am_lq3 : am_p3.length = am_q3.length := by decide +kernel
def am_q4 : List (List Nat) := [[1168, 1028], [1169], [1170], [4146, 2087, 2088, 1002], [4147, 2152, 2153, 1002], [4148, 3055, 3056, 1012], [2098, 1001], [4150, 2114, 2115, 1002], [2095, 1001], [5029, 4156, 4157, 1009], [5044, 4108, 4109, 1012], [5045, 4161, 4162, 1012], [5030, 4112, 4113, 1012], [5031, 4019, 1020]]
theorem am_k4_0 : am_ckl 4 ((am_p4.zip am_q4).take 30) = true := by decide +kernel
theorem am_e4 : am_ckl 4 ((am_p4.zip am_q4).drop 30) = true := by decide +kernel
theorem am_k4 : am_ckl 4 (am_p4.zip am_q4) = true := (am_cut 30 am_k4_0 am_e4)
theorem am_lq4 : am_p4.length = am_q4.length := by decide +kernel
def am_q5 : List (List Nat) := [[1100, 1028], [1101, 1102, 1007], [1104, 1007], [1124], [1125], [1122], [1120, 1076, 1005], [1121, 1078, 1005], [1123], [5174, 2143, 2144, 1003], [5175, 2136, 2137, 1007], [5176, 5178, 32, 1006], [5187, 2234, 2235, 1003], [3093, 8, 1005], [3130, 12, 1005], [5190, 2162, 2163, 1003], [5191, 3021, 3022, 1003], [], [5181, 3047, 3048, 1003], [], [], [], [], [], [5196], [5197, 3029, 3030, 1012], [5198, 3088, 3089, 1007], [5199, 4006, 4007, 1007], [5200, 5202, 33, 1006], [5204, 4064, 1014], [5205, 4061, 1014]]
theorem am_k5_0 : am_ckl 5 ((am_p5.zip am_q5).take 30) = true := by decide +kernel
theorem am_k5_1 : am_ckl 5 (((am_p5.zip am_q5).drop 30).take 30) = true := by decide +kernel
theorem am_e5 : am_ckl 5 (((am_p5.zip am_q5).drop 30).drop 30) = true := by decide +kernel
theorem am_k5 : am_ckl 5 (am_p5.zip am_q5) = true := (am_cut 30 am_k5_0 (am_cut 30 am_k5_1 am_e5))
theorem am_lq5 : am_p5.length = am_q5.length := by decide +kernel
def am_q6 : List (List Nat) := [[1140, 1028], [1141], [1142], [1143], [1144], [1145], [1146], [1147], [4203, 2140, 1015], [4204, 4206, 23, 1008], [2095, 1001], [4210, 4212, 24, 1008], [4215, 3029, 3030, 1012], [4216, 4108, 4109, 1012], [4217, 4161, 4162, 1012], [2098, 1001], [4214, 4002, 4003, 1012], [4222, 4224, 25, 1008]]
theorem am_k6_0 : am_ckl 6 ((am_p6.zip am_q6).take 30) = true := by decide +kernel
theorem am_e6 : am_ckl 6 ((am_p6.zip am_q6).drop 30) = true := by decide +kernel
theorem am_k6 : am_ckl 6 (am_p6.zip am_q6) = true := (am_cut 30 am_k6_0 am_e6)
theorem am_lq6 : am_p6.length = am_q6.length := by decide +kernel
def am_q7 : List (List Nat) := [[1197, 1028], [1200], [1198], [1201], [1202], [1203], [2098, 1001], [2095, 1001], [5116, 3229, 3230, 1011], [5117, 2118, 1014], [5122, 5124, 30, 1011], [4137, 4072, 4073, 1011], [5126, 5128, 5127, 1021], [5097, 5099, 28, 1011], [5101, 5102, 1011]]
theorem am_k7_0 : am_ckl 7 ((am_p7.zip am_q7).take 30) = true := by decide +kernel
theorem am_e7 : am_ckl 7 ((am_p7.zip am_q7).drop 30) = true := by decide +kernel
theorem am_k7 : am_ckl 7 (am_p7.zip am_q7) = true := (am_cut 30 am_k7_0 am_e7)
theorem am_lq7 : am_p7.length = am_q7.length := by decide +kernel
def am_q8 : List (List Nat) := [[1035, 1028], [1036], [1037], [2117, 2118, 1014], [2120, 2121, 1014], [2104, 2106, 1, 1002], [2098, 1001]]
theorem am_k8_0 : am_ckl 8 ((am_p8.zip am_q8).take 30) = true := by decide +kernel
theorem am_e8 : am_ckl 8 ((am_p8.zip am_q8).drop 30) = true := by decide +kernel
theorem am_k8 : am_ckl 8 (am_p8.zip am_q8) = true := (am_cut 30 am_k8_0 am_e8)
theorem am_lq8 : am_p8.length = am_q8.length := by decide +kernel
def am_q9 : List (List Nat) := [[1080, 1028], [1081], [1082], [3095, 3097, 9, 1005], [], [3127, 3047, 3048, 1003], [3111, 3112, 3113, 1007], [3099, 3101, 10, 1005], [], [], [3104, 2167, 2168, 1003], [3105, 3107, 11, 1005], [3116, 3117, 3118, 1003], [3120, 3093, 8, 1005], [3121, 3122, 3123, 1003], [], [3128, 3130, 12, 1005], [3170, 3172, 19, 1005], [3132, 3134, 13, 1005], [3166, 3168, 18, 1005], [3136, 3138, 14, 1005], [3140, 3141, 3142, 1003], [3144, 3041, 3042, 1003], [], [3146, 3148, 15, 1005], [], [], [3152, 3154, 16, 1005], [], [3157, 3159, 17, 1005], [3109, 2234, 2235, 1003], [3110, 2147, 2148, 1003], [], [], [], [], []]
theorem am_k9_0 : am_ckl 9 ((am_p9.zip am_q9).take 30) = true := by decide +kernel
theorem am_k9_1 : am_ckl 9 (((am_p9.zip am_q9).drop 30).take 30) = true := by decide +kernel
theorem am_e9 : am_ckl 9 (((am_p9.zip am_q9).drop 30).drop 30) = true := by decide +kernel
theorem am_k9 : am_ckl 9 (am_p9.zip am_q9) = true := (am_cut 30 am_k9_0 (am_cut 30 am_k9_1 am_e9))
theorem am_lq9 : am_p9.length = am_q9.length := by decide +kernel
def am_q10 : List (List Nat) := [[1049, 1028], [1051], [1052], [1053], [1054], [1055], [1050], [2146, 2147, 2148, 1003], [2237, 2238, 2239, 1003], [2150, 2087, 2088, 1002], [2151, 2152, 2153, 1002], [2155, 2156, 1003], [2158, 2159, 1003], [2170, 2171, 2172, 1016], [2180, 2181, 2182, 1016], [], [3039, 2167, 2168, 1003], [3011, 2234, 2235, 1003], [3125, 3117, 3118, 1003], [3006, 3008, 4, 1003]]
theorem am_k10_0 : am_ckl 10 ((am_p10.zip am_q10).take 30) = true := by decide +kernel
theorem am_e10 : am_ckl 10 ((am_p10.zip am_q10).drop 30) = true := by decide +kernel
theorem am_k10 : am_ckl 10 (am_p10.zip am_q10) = true := (am_cut 30 am_k10_0 am_e10)
theorem am_lq10 : am_p10.length = am_q10.length := by decide +kernel
def am_q11 : List (List Nat) := [[1027, 1028], [1030, 1031, 1002], [1033, 1002], [2027], [1044, 1045, 1003], [1046, 1047, 1003], [2028], [1069, 1070, 1004], [1071, 1072, 1004], [2029], [1095, 1096, 1006], [1097, 1098, 1006], [2030], [1135, 1136, 1008], [1138, 1008], [2031], [1163, 1164, 1009], [1166, 1009], [2032], [1176, 1177, 1010], [1179, 1010], [2033], [1192, 1193, 1011], [1195, 1011], [2034], [2035], [2036], [2037], [2038], [1213, 1214, 1012], [1216, 1012], [2039], [2040], [2041], [2042], [2043], [2044], [2086, 2087, 2088, 1002], [2090, 2092, 0, 1001], [2100, 2101, 2102, 1002], [2113, 2114, 2115, 1002], [2127, 2128, 2129, 1004], [3196, 3197, 3198, 1012], [3200, 3201, 3202, 1011], [3205, 3206, 3207, 1010], [3214, 3021, 3022, 1003], [3215, 3216, 3217, 1003], [3223, 3029, 3030, 1012], [3224, 3225, 3226, 1012], [3228, 3229, 3230, 1011], [3233, 3234, 3235, 1011], [3237, 3238, 3239, 1012], [4001, 4002, 4003, 1012], [4071, 4072, 4073, 1011], [4075, 4076, 4077, 1010], [4079, 4080, 4081, 1011], [4087, 3055, 3056, 1012], [4088, 4089, 4090, 1012], [4096, 4025, 4026, 1012], [4097, 4029, 4030, 1012], [4098, 4099, 4100, 1012], [4102, 4033, 4034, 1012], [4107, 4108, 4109, 1012], [4111, 4112, 4113, 1012], [4119, 4046, 4047, 1012], [4128, 4116, 4117, 1012], [4133, 4134, 4135, 1011], [4142, 4143, 4144, 1009], [4151, 4152, 4153, 1009], [4155, 4156, 4157, 1009], [4160, 4161, 4162, 1012], [4177, 4019, 1020], [2097, 2098, 1001], [2094, 2095, 1001], [4186, 4187, 4188, 1012], [4194, 4195, 4196, 1008], [4198, 4191, 4192, 1012], [4199, 4200, 4201, 1008], [4218, 4219, 4220, 1008], [4230, 4231, 4232, 1008], [4238, 4239, 5000, 1008], [5002, 5003, 5004, 1008], [5010, 5011, 5012, 1008], [5014, 5015, 5016, 1008], [5018, 5019, 1001], [5025, 5026, 5027, 1009], [5036, 5038, 26, 1001], [5046, 5048, 27, 1001], [5058, 5059, 5060, 1010], [5072, 5073, 5074, 1012], [5076, 5077, 5078, 1010], [5088, 4168, 4169, 1012], [5093, 5094, 5095, 1011], [5104, 5106, 29, 1001], [5137, 5138, 5139, 1012], [5108, 5109, 5110, 1011], [5118, 5119, 5120, 1011], [5145, 5147, 31, 1001], [5153, 4173, 4174, 1012], [5158, 5159, 5160, 1011], [5170, 5171, 5172, 1006], [5192, 5193, 5194, 1006], [5206], [5211, 5212, 1001], [5222, 5224, 34, 1001], [5226, 2152, 2153, 1002], [5112, 5113, 5114, 1011], [5149], [5150], [5151], [5152], [5040, 5041, 5042, 1009]]
theorem am_k11_0 : am_ckl 11 ((am_p11.zip am_q11).take 30) = true := by decide +kernel
theorem am_k11_1 : am_ckl 11 (((am_p11.zip am_q11).drop 30).take 30) = true := by decide +kernel
theorem am_k11_2 : am_ckl 11 ((((am_p11.zip am_q11).drop 30).drop 30).take 30) = true := by decide +kernel
theorem am_k11_3 : am_ckl 11 (((((am_p11.zip am_q11).drop 30).drop 30).drop 30).take 30) = true := by decide +kernel
theorem am_e11 : am_ckl 11 (((((am_p11.zip am_q11).drop 30).drop 30).drop 30).drop 30) = true := by decide +kernel
theorem am_k11 : am_ckl 11 (am_p11.zip am_q11) = true := (am_cut 30 am_k11_0 (am_cut 30 am_k11_1 (am_cut 30 am_k11_2 (am_cut 30 am_k11_3 am_e11))))
theorem am_lq11 : am_p11.length = am_q11.length := by decide +kernel
def am_q12 : List (List Nat) := [[5236, 1028], [5237], [6005], [6006], [6007], [6008], [6009], [6010], [6011], [6012], [6013], [6014], [6015], [6016], [6017], [6018], [6019], [6020], [6021], [6022], [6023], [6024], [6025], [6026], [6028], [6029], [6030], [6031], [6032], [6033], [6034], [6035], [6036], [6040], [6041], [6042], [6048], [6049], [6050], [6051], [6053], [6054], [6056], [6057], [6060], [6061], [6062], [6063], [6064], [6065], [6066], [6067], [6068], [6069], [6070], [6071], [6072], [6073], [6074], [6075], [6076], [6077], [6078], [6079], [6080], [6082], [6086], [6090], [5238], [6002], [6003], [5239], [6000], [7057, 7059, 35, 1013], [7077, 7078, 1013], [6001], [7073, 7075, 39, 1013], [7069, 7071, 38, 1013], [7065, 7067, 37, 1013], [7172, 7174, 61, 1013], [7114, 7115, 1013], [7117, 7118, 1013], [7096, 7098, 44, 1013], [6027], [7100], [7101], [6039], [7092, 7094, 43, 1013], [7102, 7104, 45, 1013], [7084, 7086, 41, 1013], [7088, 7090, 42, 1013], [7106, 7108, 46, 1013], [7110, 7112, 47, 1013], [7124, 7126, 49, 1013], [6081], [6083], [6084], [6085], [7132, 7134, 51, 1013], [6037], [6038], [7080, 7082, 40, 1013], [7120, 7122, 48, 1013], [7128, 7130, 50, 1013], [7219, 7221, 72, 1013], [7168, 7170, 60, 1013], [7061, 7063, 36, 1013], [6004], [7223, 7225, 73, 1013], [6058], [6055], [6044], [7235, 7237, 74, 1013], [6087], [8011, 8013, 78, 1013], [8015, 8017, 79, 1013], [8036, 8037, 1013], [8041, 8043, 84, 1013], [8056, 8058, 87, 1013], [8003, 8005, 76, 1013], [8007, 8009, 77, 1013], [8019, 8021, 80, 1013], [8032, 8034, 83, 1013], [8052, 8054, 86, 1013], [8023, 8025, 81, 1013], [8048, 8050, 85, 1013], [8028, 8030, 82, 1013], [7239, 8001, 75, 1013], [8067], [8068], [8073, 8075, 88, 1013], [8094, 8096, 92, 1013], [8081, 8083, 89, 1013], [8085], [8086, 8088, 90, 1013], [8090, 8092, 91, 1013], [8110], [8119], [6043], [8115, 8117, 93, 1013], [8120, 8122, 94, 1013], [8124, 8126, 95, 1013], [6047], [8128, 8130, 96, 1013], [8045, 8046, 1013], [6045], [6046], [8132, 8134, 97, 1013], [8156, 8158, 101, 1013], [8168, 8170, 104, 1013], [8152, 8154, 100, 1013], [6052], [8160, 8162, 102, 1013], [8164, 8166, 103, 1013], [8172, 8174, 105, 1013], [8144, 8146, 98, 1013], [8148, 8150, 99, 1013], [8176, 8178, 106, 1013], [8200, 8201, 1013], [8196, 8198, 107, 1013], [8207, 8209, 108, 1013], [8223, 8225, 109, 1013], [6059], [9032], [9033], [9034], [9035], [9011, 9013, 112, 1013], [9003, 9005, 110, 1013], [9007, 9009, 111, 1013], [9027], [9028, 9030, 113, 1013], [7144, 7146, 54, 1013], [7196, 7197, 1013], [7184, 7186, 64, 1013], [7160, 7162, 58, 1013], [7164, 7166, 59, 1013], [7156, 7158, 57, 1013], [7136, 7138, 52, 1013], [7176, 7178, 62, 1013], [7180, 7182, 63, 1013], [7192, 7194, 66, 1013], [7199, 7201, 67, 1013], [7203, 7205, 68, 1013], [7152, 7154, 56, 1013], [7188, 7190, 65, 1013], [7148, 7150, 55, 1013], [7140, 7142, 53, 1013], [7207, 7209, 69, 1013], [7211, 7213, 70, 1013], [7215, 7217, 71, 1013], [8039], [8040], [8060, 8061, 1013], [8027], [6088], [6089], [9040, 9042, 114, 1013], [9044], [9045, 9047, 115, 1013], [9049, 9051, 116, 1013], [6091], [9057, 9059, 117, 1013], [9061, 9062, 1013], [9072, 9074, 118, 1013]]
theorem am_k12_0 : am_ckl 12 ((am_p12.zip am_q12).take 30) = true := by decide +kernel
theorem am_k12_1 : am_ckl 12 (((am_p12.zip am_q12).drop 30).take 30) = true := by decide +kernel
theorem am_k12_2 : am_ckl 12 ((((am_p12.zip am_q12).drop 30).drop 30).take 30) = true := by decide +kernel
theorem am_k12_3 : am_ckl 12 (((((am_p12.zip am_q12).drop 30).drop 30).drop 30).take 30) = true := by decide +kernel
theorem am_k12_4 : am_ckl 12 ((((((am_p12.zip am_q12).drop 30).drop 30).drop 30).drop 30).take 30) = true := by decide +kernel
theorem am_k12_5 : am_ckl 12 (((((((am_p12.zip am_q12).drop 30).drop 30).drop 30).drop 30).drop 30).take 30) = true := by decide +kernel
theorem am_k12_6 : am_ckl 12 ((((((((am_p12.zip am_q12).drop 30).drop 30).drop 30).drop 30).drop 30).drop 30).take 30) = true := by decide +kernel
theorem am_e12 : am_ckl 12 ((((((((am_p12.zip am_q12).drop 30).drop 30).drop 30).drop 30).drop 30).drop 30).drop 30) = true := by decide +kernel
theorem am_k12 : am_ckl 12 (am_p12.zip am_q12) = true := (am_cut 30 am_k12_0 (am_cut 30 am_k12_1 (am_cut 30 am_k12_2 (am_cut 30 am_k12_3 (am_cut 30 am_k12_4 (am_cut 30 am_k12_5 (am_cut 30 am_k12_6 am_e12)))))))
theorem am_lq12 : am_p12.length = am_q12.length := by decide +kernel
def am_q13 : List (List Nat) := [[1022, 1023, 1001], [1024, 1025, 1001], [5231, 5232, 1013], [5233, 5234, 1013], [2082, 2083, 2084, 1001], [7045, 7046, 7047, 1013], [2109, 2110, 2111, 1001], [7049, 7050, 7051, 1013], [2123, 2124, 2125, 1001], [7053, 7054, 7055, 1013], [3210, 3211, 3212, 1001], [7227, 7228, 7229, 1013], [3219, 3220, 3221, 1001], [7231, 7232, 7233, 1013], [4083, 4084, 4085, 1001], [8063, 8064, 8065, 1013], [4092, 4093, 4094, 1001], [8069, 8070, 8071, 1013], [4103, 4104, 4105, 1001], [8077, 8078, 8079, 1013], [4120, 4121, 4122, 1001], [8098, 8099, 8100, 1013], [4124, 4125, 4126, 1001], [8102, 8103, 8104, 1013], [4129, 4130, 4131, 1001], [8106, 8107, 8108, 1013], [4138, 4139, 4140, 1001], [8111, 8112, 8113, 1013], [4178, 4179, 4180, 1001], [8136, 8137, 8138, 1013], [4182, 4183, 4184, 1001], [8140, 8141, 8142, 1013], [4226, 4227, 4228, 1001], [8180, 8181, 8182, 1013], [4234, 4235, 4236, 1001], [8184, 8185, 8186, 1013], [5006, 5007, 5008, 1001], [8188, 8189, 8190, 1013], [5021, 5022, 5023, 1001], [8192, 8193, 8194, 1013], [5032, 5033, 5034, 1001], [8203, 8204, 8205, 1013], [5050, 5051, 5052, 1001], [8211, 8212, 8213, 1013], [5054, 5055, 5056, 1001], [8215, 8216, 8217, 1013], [5068, 5069, 5070, 1001], [8219, 8220, 8221, 1013], [5084, 5085, 5086, 1001], [8227, 8228, 8229, 1013], [5089, 5090, 5091, 1001], [8239, 9000, 9001, 1013], [5129, 5130, 5131, 1001], [9015, 9016, 9017, 1013], [5133, 5134, 5135, 1001], [9019, 9020, 9021, 1013], [5141, 5142, 5143, 1001], [9023, 9024, 9025, 1013], [5154, 5155, 5156, 1001], [8231, 8232, 8233, 1013], [5162, 5163, 5164, 1001], [8235, 8236, 8237, 1013], [5166, 5167, 5168, 1001], [9036, 9037, 9038, 1013], [5207, 5208, 5209, 1001], [9053, 9054, 9055, 1013], [5214, 5215, 5216, 1001], [9064, 9065, 9066, 1013], [5218, 5219, 5220, 1001], [9068, 9069, 9070, 1013], [5227, 5228, 5229, 1001], [9076, 9077, 9078, 1013]]
theorem am_k13_0 : am_ckl 13 ((am_p13.zip am_q13).take 30) = true := by decide +kernel
theorem am_k13_1 : am_ckl 13 (((am_p13.zip am_q13).drop 30).take 30) = true := by decide +kernel
theorem am_k13_2 : am_ckl 13 ((((am_p13.zip am_q13).drop 30).drop 30).take 30) = true := by decide +kernel
theorem am_e13 : am_ckl 13 ((((am_p13.zip am_q13).drop 30).drop 30).drop 30) = true := by decide +kernel
theorem am_k13 : am_ckl 13 (am_p13.zip am_q13) = true := (am_cut 30 am_k13_0 (am_cut 30 am_k13_1 (am_cut 30 am_k13_2 am_e13)))
theorem am_lq13 : am_p13.length = am_q13.length := by decide +kernel
def am_q14 : List (List Nat) := [[4021], [4022], [4023]]
theorem am_k14_0 : am_ckl 14 ((am_p14.zip am_q14).take 30) = true := by decide +kernel
theorem am_e14 : am_ckl 14 ((am_p14.zip am_q14).drop 30) = true := by decide +kernel
theorem am_k14 : am_ckl 14 (am_p14.zip am_q14) = true := (am_cut 30 am_k14_0 am_e14)
theorem am_lq14 : am_p14.length = am_q14.length := by decide +kernel
def am_q15 : List (List Nat) := []
theorem am_e15 : am_ckl 15 (am_p15.zip am_q15) = true := by decide +kernel
theorem am_k15 : am_ckl 15 (am_p15.zip am_q15) = true := am_e15
theorem am_lq15 : am_p15.length = am_q15.length := by decide +kernel
def am_q16 : List (List Nat) := [[9080], [9081], [2178], [2174, 2175, 2176, 1016], [2184, 2185, 2186, 1016], [2188, 2189, 1017], [2194], [2196, 2197, 1018]]
theorem am_k16_0 : am_ckl 16 ((am_p16.zip am_q16).take 30) = true := by decide +kernel
theorem am_e16 : am_ckl 16 ((am_p16.zip am_q16).drop 30) = true := by decide +kernel
theorem am_k16 : am_ckl 16 (am_p16.zip am_q16) = true := (am_cut 30 am_k16_0 am_e16)
theorem am_lq16 : am_p16.length = am_q16.length := by decide +kernel
def am_q17 : List (List Nat) := [[2191, 2192, 1016]]
theorem am_k17_0 : am_ckl 17 ((am_p17.zip am_q17).take 30) = true := by decide +kernel
theorem am_e17 : am_ckl 17 ((am_p17.zip am_q17).drop 30) = true := by decide +kernel
theorem am_k17 : am_ckl 17 (am_p17.zip am_q17) = true := (am_cut 30 am_k17_0 am_e17)
theorem am_lq17 : am_p17.length = am_q17.length := by decide +kernel
def am_q18 : List (List Nat) := []
theorem am_e18 : am_ckl 18 (am_p18.zip am_q18) = true := by decide +kernel
theorem am_k18 : am_ckl 18 (am_p18.zip am_q18) = true := am_e18
theorem am_lq18 : am_p18.length = am_q18.length := by decide +kernel
def am_q19 : List (List Nat) := []
theorem am_e19 : am_ckl 19 (am_p19.zip am_q19) = true := by decide +kernel
theorem am_k19 : am_ckl 19 (am_p19.zip am_q19) = true := am_e19
theorem am_lq19 : am_p19.length = am_q19.length := by decide +kernel
theorem am_pl_ok {o x : Nat} {q : Nat × Nat × Nat} (h : am_pl o x = some q) : (∀ w ∈ am_ws o x q, w ∈ am_G) ∧ am_sd o x q = true := by
  have h1 : (x, q) ∈ am_pool.getD o [] := am_lkm h
  match o, h1 with
  | 0, h1 => exact am_ckl_ok am_k0 am_lq0 h1
  | 1, h1 => exact am_ckl_ok am_k1 am_lq1 h1
  | 2, h1 => exact am_ckl_ok am_k2 am_lq2 h1
  | 3, h1 => exact am_ckl_ok am_k3 am_lq3 h1
  | 4, h1 => exact am_ckl_ok am_k4 am_lq4 h1
  | 5, h1 => exact am_ckl_ok am_k5 am_lq5 h1
  | 6, h1 => exact am_ckl_ok am_k6 am_lq6 h1
  | 7, h1 => exact am_ckl_ok am_k7 am_lq7 h1
  | 8, h1 => exact am_ckl_ok am_k8 am_lq8 h1
  | 9, h1 => exact am_ckl_ok am_k9 am_lq9 h1
  | 10, h1 => exact am_ckl_ok am_k10 am_lq10 h1
  | 11, h1 => exact am_ckl_ok am_k11 am_lq11 h1
  | 12, h1 => exact am_ckl_ok am_k12 am_lq12 h1
  | 13, h1 => exact am_ckl_ok am_k13 am_lq13 h1
  | 14, h1 => exact am_ckl_ok am_k14 am_lq14 h1
  | 15, h1 => exact am_ckl_ok am_k15 am_lq15 h1
  | 16, h1 => exact am_ckl_ok am_k16 am_lq16 h1
  | 17, h1 => exact am_ckl_ok am_k17 am_lq17 h1
  | 18, h1 => exact am_ckl_ok am_k18 am_lq18 h1
  | 19, h1 => exact am_ckl_ok am_k19 am_lq19 h1
  | o + 20, h1 => simp [am_pool] at h1
