/-! the start: behind the two constructors -/
def m0 : xm := fun a k => if a = 0 ∧ k = 12 then 48 else if a = 0 ∧ k = 13 then 63 else if a = 0 ∧ k = 17 then 1 else if a = 3 ∧ k = 5 then -1 else if a = 10 ∧ k = 1 then 1 else if (a = 48 ∨ a = 63) ∧ k = 12 then 1 else if a = 78 ∧ (k = 8 ∨ k = 56 ∨ k = 57) then -1 else if a = 78 ∧ k = 63 then 1 else 0
theorem m0_z {a : Nat} {k : Int} (h : ¬ (a = 0 ∧ (k = 12 ∨ k = 13 ∨ k = 17) ∨ a = 3 ∧ k = 5 ∨ a = 10 ∧ k = 1 ∨ (a = 48 ∨ a = 63) ∧ k = 12 ∨ a = 78 ∧ (k = 8 ∨ k = 56 ∨ k = 57 ∨ k = 63))) : ld m0 a k = 0 := by
  unfold ld m0
  rw [if_neg (by omega), if_neg (by omega), if_neg (by omega), if_neg (by omega), if_neg (by omega), if_neg (by omega), if_neg (by omega), if_neg (by omega)]
  rfl
theorem Inv_0 : Inv m0 := by
  have h12 : hl m0 12 = 48 := by decide
  have h13 : hl m0 13 = 63 := by decide
  refine ⟨G00, ⟨GI_00.1, GI_00.2.1, by rw [h12, h13]; decide, ?_, ?_, ⟨fun t x1 x2 => ?_, ?_, fun l x1 x2 => ?_, fun n l x1 x2 x3 x4 => ?_, fun q x1 x2 => ?_, fun d x1 x2 => ?_, fun d k x1 x2 x3 x4 => ?_⟩, fun t i x1 x2 x3 x4 => ?_⟩, ⟨?_, fun l x1 x2 => ?_, ?_, ⟨?_, ?_, ?_⟩, ⟨?_, ?_, ?_⟩, fun i x1 x2 => ?_⟩, ⟨?_, ?_, ?_, ⟨?_, ?_⟩, ⟨?_, ?_⟩, fun j x1 x2 => ?_⟩, TP_0 (m0_z (by omega)) (m0_z (by omega)), ⟨?_, ?_⟩, fun i x1 x2 => ?_, ⟨?_, ?_, ?_, fun k x1 x2 => ?_⟩, ⟨?_, fun x => ?_⟩, ⟨fun x => ⟨?_, ?_⟩, fun x => ?_⟩, ⟨?_, ?_, ?_, fun k x1 x2 => ?_⟩, ⟨?_, ?_, ?_⟩⟩
  · rw [h12]
    refine ⟨fun k x1 x2 => ?_, ?_, ?_, ?_, fun l x1 x2 => ?_, fun n l x1 x2 x3 x4 => ?_, fun n x1 x2 => ?_, fun q x1 x2 => ?_, fun d x1 x2 => ?_, fun d k x1 x2 => ?_, fun t i x1 x2 x3 x4 => ?_⟩
    · exact m0_z (by omega)
    · rw [m0_z (by omega)]; rfl
    · rfl
    · rw [m0_z (by omega)]; rfl
    · exact absurd x2 (by unfold nL G00; omega)
    · rw [m0_z (by omega)]; rfl
    · rw [m0_z (by omega)]; rfl
    · rw [m0_z (by omega)]; rfl
    · exact absurd x2 (by unfold nD G00; omega)
    · exact absurd x2 (by unfold nD G00; omega)
    · exact absurd x4 (by unfold G00; omega)
  · rw [h12]
    exact CM_0 GI_00.1.1 (fun i x1 x2 => m0_z (by omega))
  · rw [m0_z (by omega)]; rfl
  · rw [m0_z (by omega)]; rfl
  · exact absurd x2 (by unfold nL G00; omega)
  · exact absurd x2 (by unfold nN G00; omega)
  · exact absurd x2 (by unfold nP G00; omega)
  · exact absurd x2 (by unfold nD G00; omega)
  · exact absurd x2 (by unfold nD G00; omega)
  · exact absurd x4 (by unfold G00; omega)
  · have := vs_fs GI_00.1
    rw [m0_z (by omega)]
    exact this
  · exact absurd x2 (by unfold nL G00; omega)
  · rw [m0_z (by omega), m0_z (by omega)]; rfl
  · rw [m0_z (by omega), m0_z (by omega)]
  · rw [m0_z (by omega)]; decide
  · rw [m0_z (by omega)]; decide
  · rw [m0_z (by omega), m0_z (by omega)]
  · rw [m0_z (by omega)]; decide
  · rw [m0_z (by omega)]; decide
  · rw [m0_z (by omega)] at x2; omega
  · rw [m0_z (by omega), m0_z (by omega)]
  · rw [m0_z (by omega)]; decide
  · rw [m0_z (by omega)]; decide
  · rw [m0_z (by omega)]; decide
  · rw [m0_z (by omega)]; decide
  · rw [m0_z (by omega)]; decide
  · rw [m0_z (by omega)]; decide
  · rw [m0_z (by omega)] at x2; omega
  · rw [m0_z (by omega), m0_z (by omega)]
  · rfl
  · rw [m0_z (by omega), m0_z (by omega)]
  · rw [m0_z (by omega), m0_z (by omega)]
  · rw [m0_z (by omega)]; decide
  · rw [m0_z (by omega)]; decide
  · rw [m0_z (by omega)] at x2; omega
  · rw [m0_z (by omega), m0_z (by omega)]
  · exact absurd (m0_z (by omega)) x
  · rfl
  · rfl
  · exact absurd (m0_z (by omega)) x
  · rw [m0_z (by omega), m0_z (by omega)]
  · rw [m0_z (by omega)]; decide
  · rw [m0_z (by omega)]; decide
  · rw [m0_z (by omega)] at x2; omega
  · rfl
  · decide
  · decide
theorem law_all {L : Nat} {xs : Nat → Int32} (hL : (L : Int) ≤ 2147483600) : ∃ f m', lw_law_18 L xs f 0 m0 = some (1, m') := by
  obtain ⟨m', h⟩ := law_ok (xs := xs) hL (L + 1) (v := 0) (m := m0) Inv_0 (by omega) (by omega) (by omega)
  exact ⟨L + 1, m', h⟩
