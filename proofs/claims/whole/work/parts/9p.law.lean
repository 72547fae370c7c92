/-! the law's loop -/
def one1 (X : xr) : Prop := ∃ m', X = some (1, m')
theorem one1_sw {x lo : Int} {A D : xr} {t : List xr} (h : one1 A) (k : one1 (xsw x (lo + 1) t D)) : one1 (xsw x lo (A :: t) D) := by
  rw [xsw]
  split
  · exact h
  · exact k
theorem one1_nil {x lo : Int} {D : xr} (h : one1 D) : one1 (xsw x lo [] D) := by
  rw [xsw]
  exact h
theorem law_I {f g : xm → xr} {m : xm} {K E : xm → xr} (h : okI f g) (hi : Inv m) (k : ∀ m', Inv m' → one1 (K m')) : one1 (bnd (f m) fun r m1 => bnd (g m1) fun r' m2 => if w32 r = w32 r' then K m2 else E m2) := by
  obtain ⟨r, m1, r', m2, h1, h2, h3, h4⟩ := h m hi
  rw [h1, bnd_some, h2, bnd_some, if_pos h3]
  exact k m2 h4
theorem law_L {f g : xm → xr} {m : xm} {K E : xm → xr} (h : okL f g) (hi : Inv m) (k : ∀ m', Inv m' → one1 (K m')) : one1 (bnd (f m) fun r m1 => bnd (g m1) fun r' m2 => if w64 r = w64 r' then K m2 else E m2) := by
  obtain ⟨r, m1, r', m2, h1, h2, h3, h4⟩ := h m hi
  rw [h1, bnd_some, h2, bnd_some, if_pos h3]
  exact k m2 h4
theorem xal_in {L : Nat} {xs : Nat → Int32} {k : Int} (hL : (L : Int) ≤ 2147483647) (h1 : 0 ≤ k) (h2 : k < (L : Int)) : ∃ x, rg x ∧ ∀ K, xal L xs k K = K x := by
  refine ⟨(xs (w32 k).toNat).toInt, ?_, fun K => ?_⟩
  · have a := Int32.le_toInt (xs (w32 k).toNat)
    have b := Int32.toInt_lt (xs (w32 k).toNat)
    exact ⟨by omega, by omega⟩
  · unfold xal
    rw [if_pos]
    rw [w32_id (by omega) (by omega)]
    exact ⟨h1, h2⟩
theorem law_ok {L : Nat} {xs : Nat → Int32} (hL : (L : Int) ≤ 2147483600) : ∀ (f : Nat) {v : Int} {m : xm}, Inv m → 0 ≤ v → v ≤ (L : Int) → (L : Int) - v < 6 * (f : Int) → one1 (lw_law_18 L xs f v m)
  | 0, v, m, hi, h0, h1, hf => absurd hf (by omega)
  | f + 1, v, m, hi, h0, h1, hf => by
    rw [lw_law_18, w32_id (x := (L : Int) - 6) (by omega) (by omega), w32_id (x := v) (by omega) (by omega)]
    by_cases e : (L : Int) - 6 < v
    · rw [if_pos e]
      exact ⟨m, rfl⟩
    · have k : ∀ m', Inv m' → one1 (lw_law_967 L xs (fun v3 m => lw_law_18 L xs f v3 m) v m') := fun m' hi' => by
        unfold lw_law_967
        exact law_ok hL f hi' (by omega) (by omega) (by omega)
      obtain ⟨x0, r0, e0⟩ := xal_in (L := L) (xs := xs) (k := v) (by omega) (by omega) (by omega)
      obtain ⟨x1, r1, e1⟩ := xal_in (L := L) (xs := xs) (k := v + 1) (by omega) (by omega) (by omega)
      obtain ⟨x2, r2, e2⟩ := xal_in (L := L) (xs := xs) (k := v + 2) (by omega) (by omega) (by omega)
      obtain ⟨x3, r3, e3⟩ := xal_in (L := L) (xs := xs) (k := v + 3) (by omega) (by omega) (by omega)
      obtain ⟨x4, r4, e4⟩ := xal_in (L := L) (xs := xs) (k := v + 4) (by omega) (by omega) (by omega)
      obtain ⟨x5, r5, e5⟩ := xal_in (L := L) (xs := xs) (k := v + 5) (by omega) (by omega) (by omega)
      rw [if_neg e, e0]
      refine one1_sw ?_ (one1_sw ?_ (one1_sw ?_ (one1_sw ?_ (one1_sw ?_ (one1_sw ?_ (one1_sw ?_ (one1_sw ?_ (one1_sw ?_ (one1_sw ?_ (one1_sw ?_ (one1_sw ?_ (one1_sw ?_ (one1_sw ?_ (one1_sw ?_ (one1_sw ?_ (one1_sw ?_ (one1_sw ?_ (one1_sw ?_ (one1_sw ?_ (one1_sw ?_ (one1_sw ?_ (one1_sw ?_ (one1_sw ?_ (one1_sw ?_ (one1_sw ?_ (one1_sw ?_ (one1_sw ?_ (one1_sw ?_ (one1_sw ?_ (one1_sw ?_ (one1_sw ?_ (one1_sw ?_ (one1_sw ?_ (one1_nil ?_))))))))))))))))))))))))))))))))))
      · simp only [e1, e2, e3, e4, e5]
        exact law_I ok_feed hi k
      · simp only [e1]
        exact law_I (ok_end r1) hi k
      · exact law_I ok_hall hi k
      · simp only [e1]
        exact law_I ok_fault hi k
      · simp only [e1]
        exact law_I (ok_has r1) hi k
      · simp only [e1, e2, e3]
        exact law_I (ok_letter r1 r2 r3) hi k
      · simp only [e1, e2]
        exact law_I (ok_lock r1 r2) hi k
      · simp only [e1, e2]
        exact law_I (ok_note r1 r2) hi k
      · simp only [e1]
        exact law_I (ok_door r1) hi k
      · simp only [e1]
        exact law_I (ok_player r1) hi k
      · simp only [e1, e2]
        exact law_I (ok_kept r1 r2) hi k
      · exact law_I ok_judge hi k
      · simp only [e1]
        exact law_I (ok_judged r1) hi k
      · simp only [e1, e2]
        exact law_I (ok_shortest r1 r2) hi k
      · simp only [e1]
        exact law_I (ok_back r1) hi k
      · exact law_I ok_states hi k
      · simp only [e1]
        exact law_I (ok_forbid r1) hi k
      · exact law_I ok_share hi k
      · simp only [e1]
        exact law_I (ok_slip r1) hi k
      · simp only [e1]
        exact law_I (ok_slipped r1) hi k
      · exact law_I ok_hear hi k
      · simp only [e1]
        exact law_I (ok_starts r1) hi k
      · simp only [e1]
        exact law_I (ok_hangs r1) hi k
      · simp only [e1]
        exact law_I (ok_play r1) hi k
      · exact law_I ok_piece hi k
      · simp only [e1]
        exact law_I (ok_oil r1) hi k
      · simp only [e1]
        exact law_I (ok_evening r1) hi k
      · exact law_I ok_undo hi k
      · simp only [e1]
        exact law_I (ok_seed r1) hi k
      · exact law_L ok_ask hi k
      · exact law_I ok_image hi k
      · simp only [e1]
        exact law_I (ok_octet r1) hi k
      · exact law_I ok_on hi k
      · simp only [e1]
        exact law_I (ok_status r1) hi k
      · exact k m hi
