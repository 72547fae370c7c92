/-! fields: their types, their names apart, their words -/
def am_ckw (ws : List Cond) (ps : List Nat) : Bool := decide (ws.length = ps.length) && (ws.zip ps).all (fun q => decide (am_at q.2 = some q.1) && goodWord q.1)
theorem am_ckw_ok {ws : List Cond} {ps : List Nat} (h : am_ckw ws ps = true) : ∀ w ∈ ws, w ∈ am_G := by
  simp only [am_ckw, Bool.and_eq_true, decide_eq_true_eq] at h
  intro w hw
  obtain ⟨k, hk⟩ := List.mem_iff_getElem?.mp hw
  have hkl : k < ps.length := by rw [← h.1]; exact (List.getElem?_eq_some_iff.mp hk).1
  have hz2 : (ws.zip ps)[k]? = some (w, ps[k]) := by rw [List.getElem?_zip_eq_some]; exact ⟨hk, List.getElem?_eq_getElem hkl⟩
  have h5 := List.all_eq_true.mp h.2 _ (List.mem_of_getElem? hz2)
  simp only [Bool.and_eq_true, decide_eq_true_eq] at h5
  exact am_mem h5.1 h5.2
theorem am_ty0 : ∀ k, k < 4 → parseFieldDescriptor (am_T0 k).2.2.1 = some (am_Y0 k) := by decide +kernel
theorem am_nm0 : ∀ a, a < 4 → ∀ b, b < 4 → a ≠ b → (am_T0 a).2.1 ≠ (am_T0 b).2.1 := by decide +kernel
theorem am_lay0 : ∀ w ∈ u_ws "LockOrchestra$Code" am_T0 4, w ∈ am_G := am_ckw_ok (ps := [1111, 1113, 1115, 1117]) (by decide +kernel)
theorem am_ty1 : ∀ k, k < 15 → parseFieldDescriptor (am_T1 k).2.2.1 = some (am_Y1 k) := by decide +kernel
theorem am_nm1 : ∀ a, a < 15 → ∀ b, b < 15 → a ≠ b → (am_T1 a).2.1 ≠ (am_T1 b).2.1 := by decide +kernel
theorem am_lay1 : ∀ w ∈ u_ws "LockOrchestra$Hall" am_T1 15, w ∈ am_G := am_ckw_ok (ps := [1236, 1238, 2000, 2002, 2004, 2006, 2008, 2010, 2012, 2014, 2016, 2018, 2020, 2022, 2024]) (by decide +kernel)
theorem am_ty2 : ∀ k, k < 2 → parseFieldDescriptor (am_T2 k).2.2.1 = some (am_Y2 k) := by decide +kernel
theorem am_nm2 : ∀ a, a < 2 → ∀ b, b < 2 → a ≠ b → (am_T2 a).2.1 ≠ (am_T2 b).2.1 := by decide +kernel
theorem am_lay2 : ∀ w ∈ u_ws "LockOrchestra$HallReader" am_T2 2, w ∈ am_G := am_ckw_ok (ps := [1090, 1092]) (by decide +kernel)
theorem am_ty3 : ∀ k, k < 3 → parseFieldDescriptor (am_T3 k).2.2.1 = some (am_Y3 k) := by decide +kernel
theorem am_nm3 : ∀ a, a < 3 → ∀ b, b < 3 → a ≠ b → (am_T3 a).2.1 ≠ (am_T3 b).2.1 := by decide +kernel
theorem am_lay3 : ∀ w ∈ u_ws "LockOrchestra$Heard" am_T3 3, w ∈ am_G := am_ckw_ok (ps := [1185, 1187, 1189]) (by decide +kernel)
theorem am_ty4 : ∀ k, k < 2 → parseFieldDescriptor (am_T4 k).2.2.1 = some (am_Y4 k) := by decide +kernel
theorem am_nm4 : ∀ a, a < 2 → ∀ b, b < 2 → a ≠ b → (am_T4 a).2.1 ≠ (am_T4 b).2.1 := by decide +kernel
theorem am_lay4 : ∀ w ∈ u_ws "LockOrchestra$Piece" am_T4 2, w ∈ am_G := am_ckw_ok (ps := [1171, 1173]) (by decide +kernel)
theorem am_ty5 : ∀ k, k < 4 → parseFieldDescriptor (am_T5 k).2.2.1 = some (am_Y5 k) := by decide +kernel
theorem am_nm5 : ∀ a, a < 4 → ∀ b, b < 4 → a ≠ b → (am_T5 a).2.1 ≠ (am_T5 b).2.1 := by decide +kernel
theorem am_lay5 : ∀ w ∈ u_ws "LockOrchestra$Question" am_T5 4, w ∈ am_G := am_ckw_ok (ps := [1126, 1128, 1130, 1132]) (by decide +kernel)
theorem am_ty6 : ∀ k, k < 7 → parseFieldDescriptor (am_T6 k).2.2.1 = some (am_Y6 k) := by decide +kernel
theorem am_nm6 : ∀ a, a < 7 → ∀ b, b < 7 → a ≠ b → (am_T6 a).2.1 ≠ (am_T6 b).2.1 := by decide +kernel
theorem am_lay6 : ∀ w ∈ u_ws "LockOrchestra$Search" am_T6 7, w ∈ am_G := am_ckw_ok (ps := [1148, 1150, 1152, 1154, 1156, 1158, 1160]) (by decide +kernel)
theorem am_ty7 : ∀ k, k < 4 → parseFieldDescriptor (am_T7 k).2.2.1 = some (am_Y7 k) := by decide +kernel
theorem am_nm7 : ∀ a, a < 4 → ∀ b, b < 4 → a ≠ b → (am_T7 a).2.1 ≠ (am_T7 b).2.1 := by decide +kernel
theorem am_lay7 : ∀ w ∈ u_ws "LockOrchestra$Story" am_T7 4, w ∈ am_G := am_ckw_ok (ps := [1204, 1206, 1208, 1210]) (by decide +kernel)
theorem am_ty8 : ∀ k, k < 2 → parseFieldDescriptor (am_T8 k).2.2.1 = some (am_Y8 k) := by decide +kernel
theorem am_nm8 : ∀ a, a < 2 → ∀ b, b < 2 → a ≠ b → (am_T8 a).2.1 ≠ (am_T8 b).2.1 := by decide +kernel
theorem am_lay8 : ∀ w ∈ u_ws "LockOrchestra$Tape" am_T8 2, w ∈ am_G := am_ckw_ok (ps := [1038, 1040]) (by decide +kernel)
theorem am_ty9 : ∀ k, k < 2 → parseFieldDescriptor (am_T9 k).2.2.1 = some (am_Y9 k) := by decide +kernel
theorem am_nm9 : ∀ a, a < 2 → ∀ b, b < 2 → a ≠ b → (am_T9 a).2.1 ≠ (am_T9 b).2.1 := by decide +kernel
theorem am_lay9 : ∀ w ∈ u_ws "LockOrchestra$TestReader" am_T9 2, w ∈ am_G := am_ckw_ok (ps := [1083, 1085]) (by decide +kernel)
theorem am_ty10 : ∀ k, k < 6 → parseFieldDescriptor (am_T10 k).2.2.1 = some (am_Y10 k) := by decide +kernel
theorem am_nm10 : ∀ a, a < 6 → ∀ b, b < 6 → a ≠ b → (am_T10 a).2.1 ≠ (am_T10 b).2.1 := by decide +kernel
theorem am_lay10 : ∀ w ∈ u_ws "LockOrchestra$Words" am_T10 6, w ∈ am_G := am_ckw_ok (ps := [1056, 1058, 1060, 1062, 1064, 1066]) (by decide +kernel)
theorem am_ty11 : ∀ k, k < 18 → parseFieldDescriptor (am_T11 k).2.2.1 = some (am_Y11 k) := by decide +kernel
theorem am_nm11 : ∀ a, a < 18 → ∀ b, b < 18 → a ≠ b → (am_T11 a).2.1 ≠ (am_T11 b).2.1 := by decide +kernel
theorem am_lay11 : ∀ w ∈ u_ws "LockOrchestra" am_T11 18, w ∈ am_G := am_ckw_ok (ps := [2045, 2047, 2049, 2051, 2053, 2055, 2057, 2059, 2061, 2063, 2065, 2067, 2069, 2071, 2073, 2075, 2077, 2079]) (by decide +kernel)
theorem am_ty12 : ∀ k, k < 95 → parseFieldDescriptor (am_T12 k).2.2.1 = some (am_Y12 k) := by decide +kernel
theorem am_nm12 : ∀ a, a < 95 → ∀ b, b < 95 → a ≠ b → (am_T12 a).2.1 ≠ (am_T12 b).2.1 := by decide +kernel
theorem am_lay12 : ∀ w ∈ u_ws "LockOrchestraModel" am_T12 95, w ∈ am_G := am_ckw_ok (ps := [6092, 6094, 6096, 6098, 6100, 6102, 6104, 6106, 6108, 6110, 6112, 6114, 6116, 6118, 6120, 6122, 6124, 6126, 6128, 6130, 6132, 6134, 6136, 6138, 6140, 6142, 6144, 6146, 6148, 6150, 6152, 6154, 6156, 6158, 6160, 6162, 6164, 6166, 6168, 6170, 6172, 6174, 6176, 6178, 6180, 6182, 6184, 6186, 6188, 6190, 6192, 6194, 6196, 6198, 6200, 6202, 6204, 6206, 6208, 6210, 6212, 6214, 6216, 6218, 6220, 6222, 6224, 6226, 6228, 6230, 6232, 6234, 6236, 6238, 7000, 7002, 7004, 7006, 7008, 7010, 7012, 7014, 7016, 7018, 7020, 7022, 7024, 7026, 7028, 7030, 7032, 7034, 7036, 7038, 7040]) (by decide +kernel)
theorem am_cl_ty : ∀ (ci : Nat) (r : vw_C) (ty : Nat → FieldType), am_cl[ci]? = some r → am_cy[ci]? = some ty → (∀ k, k < r.2.2 → parseFieldDescriptor (r.2.1 k).2.2.1 = some (ty k)) ∧ (∀ a, a < r.2.2 → ∀ b, b < r.2.2 → a ≠ b → (r.2.1 a).2.1 ≠ (r.2.1 b).2.1) ∧ (∀ w ∈ u_ws r.1 r.2.1 r.2.2, w ∈ am_G) := by
  intro ci r ty h1 h2
  match ci, h1, h2 with
  | 0, h1, h2 => cases h1; cases h2; exact ⟨am_ty0, am_nm0, am_lay0⟩
  | 1, h1, h2 => cases h1; cases h2; exact ⟨am_ty1, am_nm1, am_lay1⟩
  | 2, h1, h2 => cases h1; cases h2; exact ⟨am_ty2, am_nm2, am_lay2⟩
  | 3, h1, h2 => cases h1; cases h2; exact ⟨am_ty3, am_nm3, am_lay3⟩
  | 4, h1, h2 => cases h1; cases h2; exact ⟨am_ty4, am_nm4, am_lay4⟩
  | 5, h1, h2 => cases h1; cases h2; exact ⟨am_ty5, am_nm5, am_lay5⟩
  | 6, h1, h2 => cases h1; cases h2; exact ⟨am_ty6, am_nm6, am_lay6⟩
  | 7, h1, h2 => cases h1; cases h2; exact ⟨am_ty7, am_nm7, am_lay7⟩
  | 8, h1, h2 => cases h1; cases h2; exact ⟨am_ty8, am_nm8, am_lay8⟩
  | 9, h1, h2 => cases h1; cases h2; exact ⟨am_ty9, am_nm9, am_lay9⟩
  | 10, h1, h2 => cases h1; cases h2; exact ⟨am_ty10, am_nm10, am_lay10⟩
  | 11, h1, h2 => cases h1; cases h2; exact ⟨am_ty11, am_nm11, am_lay11⟩
  | 12, h1, h2 => cases h1; cases h2; exact ⟨am_ty12, am_nm12, am_lay12⟩
  | ci + 13, h1, h2 => simp [am_cl] at h1
theorem am_acI : Cond.arrayClass .int ∈ am_G := am_mem (i := 1043) rfl rfl
theorem am_acJ : Cond.arrayClass .long ∈ am_G := am_mem (i := 7044) rfl rfl
theorem am_acC : Cond.arrayClass .char ∈ am_G := am_mem (i := 7043) rfl rfl
