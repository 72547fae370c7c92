/-! the start: the cells behind the constructors are m0; the claim -/
theorem ec_ch {n : Nat} {f g : Nat → Int32} (h : ∀ i, f i = g i) : (Sum.inl (2, n, Sum.inl f) : va_E) = Sum.inl (2, n, Sum.inl g) := by rw [funext h]
theorem ec_0 : xcf (xsa 0) (m0 0) = (.inr (11, [.ref 1, .ref 3, .ref 4, .ref 6, .ref 11, .ref 16, .ref 18, .ref 21, .ref 44, .ref 45, .ref 46, .ref 47, .ref 48, .ref 63, .int 0, .int 0, .int 0, .long 1]) : va_E) := by rfl
theorem ec_1 : xcf (xsa 1) (m0 1) = (.inr (8, [.ref 2, .int 0]) : va_E) := by rfl
theorem ec_2 : xcf (xsa 2) (m0 2) = (.inl (0, 1600, .inl (fun _ => 0)) : va_E) := by rfl
theorem ec_3 : xcf (xsa 3) (m0 3) = (.inr (10, [.ref 1, .int 0, .int 0, .int 0, .int 0, .int (-1)]) : va_E) := by rfl
theorem ec_4 : xcf (xsa 4) (m0 4) = (.inr (2, [.ref 3, .ref 5]) : va_E) := by rfl
theorem ec_5 : xcf (xsa 5) (m0 5) = (.inr (9, [.ref 3, .int 0]) : va_E) := by rfl
theorem ec_6 : xcf (xsa 6) (m0 6) = (.inr (5, [.ref 3, .ref 10, .ref 7, .int 0]) : va_E) := by rfl
theorem ec_7 : xcf (xsa 7) (m0 7) = (.inr (0, [.ref 8, .ref 9, .int 0, .int 0]) : va_E) := by rfl
theorem ec_8 : xcf (xsa 8) (m0 8) = (.inl (0, 1600, .inl (fun _ => 0)) : va_E) := by rfl
theorem ec_9 : xcf (xsa 9) (m0 9) = (.inl (0, 64, .inl (fun _ => 0)) : va_E) := by rfl
theorem ec_10 : xcf (xsa 10) (m0 10) = (.inr (9, [.ref 3, .int 1]) : va_E) := by rfl
theorem ec_11 : xcf (xsa 11) (m0 11) = (.inr (6, [.ref 12, .ref 13, .ref 14, .ref 15, .int 0, .int 0, .int 0]) : va_E) := by rfl
theorem ec_12 : xcf (xsa 12) (m0 12) = (.inl (0, 313, .inl (fun _ => 0)) : va_E) := by rfl
theorem ec_13 : xcf (xsa 13) (m0 13) = (.inl (0, 1296, .inl (fun _ => 0)) : va_E) := by rfl
theorem ec_14 : xcf (xsa 14) (m0 14) = (.inl (0, 1296, .inl (fun _ => 0)) : va_E) := by rfl
theorem ec_15 : xcf (xsa 15) (m0 15) = (.inl (0, 1296, .inl (fun _ => 0)) : va_E) := by rfl
theorem ec_16 : xcf (xsa 16) (m0 16) = (.inr (4, [.ref 17, .int 0]) : va_E) := by rfl
theorem ec_17 : xcf (xsa 17) (m0 17) = (.inl (0, 20, .inl (fun _ => 0)) : va_E) := by rfl
theorem ec_18 : xcf (xsa 18) (m0 18) = (.inr (3, [.ref 19, .ref 20, .int 0]) : va_E) := by rfl
theorem ec_19 : xcf (xsa 19) (m0 19) = (.inl (0, 20, .inl (fun _ => 0)) : va_E) := by rfl
theorem ec_20 : xcf (xsa 20) (m0 20) = (.inl (0, 20, .inl (fun _ => 0)) : va_E) := by rfl
theorem ec_21 : xcf (xsa 21) (m0 21) = (.inr (7, [.ref 22, .ref 23, .int 0, .int 0]) : va_E) := by rfl
theorem ec_22 : xcf (xsa 22) (m0 22) = (.inl (0, 43, .inl (fun _ => 0)) : va_E) := by rfl
theorem ec_23 : xcf (xsa 23) (m0 23) = (.inl (3, 20, .inr (.inr (.inr (.inr (fun i => if i < 20 then some (24 + i) else none))))) : va_E) := by rfl
theorem ec_24 : xcf (xsa 24) (m0 24) = (.inl (0, 43, .inl (fun _ => 0)) : va_E) := by rfl
theorem ec_25 : xcf (xsa 25) (m0 25) = (.inl (0, 43, .inl (fun _ => 0)) : va_E) := by rfl
theorem ec_26 : xcf (xsa 26) (m0 26) = (.inl (0, 43, .inl (fun _ => 0)) : va_E) := by rfl
theorem ec_27 : xcf (xsa 27) (m0 27) = (.inl (0, 43, .inl (fun _ => 0)) : va_E) := by rfl
theorem ec_28 : xcf (xsa 28) (m0 28) = (.inl (0, 43, .inl (fun _ => 0)) : va_E) := by rfl
theorem ec_29 : xcf (xsa 29) (m0 29) = (.inl (0, 43, .inl (fun _ => 0)) : va_E) := by rfl
theorem ec_30 : xcf (xsa 30) (m0 30) = (.inl (0, 43, .inl (fun _ => 0)) : va_E) := by rfl
theorem ec_31 : xcf (xsa 31) (m0 31) = (.inl (0, 43, .inl (fun _ => 0)) : va_E) := by rfl
theorem ec_32 : xcf (xsa 32) (m0 32) = (.inl (0, 43, .inl (fun _ => 0)) : va_E) := by rfl
theorem ec_33 : xcf (xsa 33) (m0 33) = (.inl (0, 43, .inl (fun _ => 0)) : va_E) := by rfl
theorem ec_34 : xcf (xsa 34) (m0 34) = (.inl (0, 43, .inl (fun _ => 0)) : va_E) := by rfl
theorem ec_35 : xcf (xsa 35) (m0 35) = (.inl (0, 43, .inl (fun _ => 0)) : va_E) := by rfl
theorem ec_36 : xcf (xsa 36) (m0 36) = (.inl (0, 43, .inl (fun _ => 0)) : va_E) := by rfl
theorem ec_37 : xcf (xsa 37) (m0 37) = (.inl (0, 43, .inl (fun _ => 0)) : va_E) := by rfl
theorem ec_38 : xcf (xsa 38) (m0 38) = (.inl (0, 43, .inl (fun _ => 0)) : va_E) := by rfl
theorem ec_39 : xcf (xsa 39) (m0 39) = (.inl (0, 43, .inl (fun _ => 0)) : va_E) := by rfl
theorem ec_40 : xcf (xsa 40) (m0 40) = (.inl (0, 43, .inl (fun _ => 0)) : va_E) := by rfl
theorem ec_41 : xcf (xsa 41) (m0 41) = (.inl (0, 43, .inl (fun _ => 0)) : va_E) := by rfl
theorem ec_42 : xcf (xsa 42) (m0 42) = (.inl (0, 43, .inl (fun _ => 0)) : va_E) := by rfl
theorem ec_43 : xcf (xsa 43) (m0 43) = (.inl (0, 43, .inl (fun _ => 0)) : va_E) := by rfl
theorem ec_44 : xcf (xsa 44) (m0 44) = (.inl (0, 3, .inl (fun _ => 0)) : va_E) := by rfl
theorem ec_45 : xcf (xsa 45) (m0 45) = (.inl (0, 2, .inl (fun _ => 0)) : va_E) := by rfl
theorem ec_46 : xcf (xsa 46) (m0 46) = (.inl (0, 11, .inl (fun _ => 0)) : va_E) := by rfl
theorem ec_47 : xcf (xsa 47) (m0 47) = (.inl (0, 6, .inl (fun _ => 0)) : va_E) := by rfl
theorem ec_48 : xcf (xsa 48) (m0 48) = (.inr (1, [.ref 49, .ref 52, .ref 53, .ref 54, .ref 55, .ref 56, .ref 57, .ref 58, .ref 59, .ref 60, .ref 61, .ref 62, .int 1, .int 0, .int 0]) : va_E) := by rfl
theorem ec_49 : xcf (xsa 49) (m0 49) = (.inr (0, [.ref 50, .ref 51, .int 0, .int 0]) : va_E) := by rfl
theorem ec_50 : xcf (xsa 50) (m0 50) = (.inl (0, 1600, .inl (fun _ => 0)) : va_E) := by rfl
theorem ec_51 : xcf (xsa 51) (m0 51) = (.inl (0, 64, .inl (fun _ => 0)) : va_E) := by rfl
theorem ec_52 : xcf (xsa 52) (m0 52) = (.inl (0, 4, .inl (fun _ => 0)) : va_E) := by rfl
theorem ec_53 : xcf (xsa 53) (m0 53) = (.inl (0, 24, .inl (fun _ => 0)) : va_E) := by rfl
theorem ec_54 : xcf (xsa 54) (m0 54) = (.inl (0, 4, .inl (fun _ => 0)) : va_E) := by rfl
theorem ec_55 : xcf (xsa 55) (m0 55) = (.inl (0, 4, .inl (fun _ => 0)) : va_E) := by rfl
theorem ec_56 : xcf (xsa 56) (m0 56) = (.inl (0, 4, .inl (fun _ => 0)) : va_E) := by rfl
theorem ec_57 : xcf (xsa 57) (m0 57) = (.inl (0, 24, .inl (fun _ => 0)) : va_E) := by rfl
theorem ec_58 : xcf (xsa 58) (m0 58) = (.inl (0, 6, .inl (fun _ => 0)) : va_E) := by rfl
theorem ec_59 : xcf (xsa 59) (m0 59) = (.inl (0, 5, .inl (fun _ => 0)) : va_E) := by rfl
theorem ec_60 : xcf (xsa 60) (m0 60) = (.inl (0, 6, .inl (fun _ => 0)) : va_E) := by rfl
theorem ec_61 : xcf (xsa 61) (m0 61) = (.inl (0, 6, .inl (fun _ => 0)) : va_E) := by rfl
theorem ec_62 : xcf (xsa 62) (m0 62) = (.inl (0, 2500, .inl (fun _ => 0)) : va_E) := by rfl
theorem ec_63 : xcf (xsa 63) (m0 63) = (.inr (1, [.ref 64, .ref 67, .ref 68, .ref 69, .ref 70, .ref 71, .ref 72, .ref 73, .ref 74, .ref 75, .ref 76, .ref 77, .int 1, .int 0, .int 0]) : va_E) := by rfl
theorem ec_64 : xcf (xsa 64) (m0 64) = (.inr (0, [.ref 65, .ref 66, .int 0, .int 0]) : va_E) := by rfl
theorem ec_65 : xcf (xsa 65) (m0 65) = (.inl (0, 1600, .inl (fun _ => 0)) : va_E) := by rfl
theorem ec_66 : xcf (xsa 66) (m0 66) = (.inl (0, 64, .inl (fun _ => 0)) : va_E) := by rfl
theorem ec_67 : xcf (xsa 67) (m0 67) = (.inl (0, 4, .inl (fun _ => 0)) : va_E) := by rfl
theorem ec_68 : xcf (xsa 68) (m0 68) = (.inl (0, 24, .inl (fun _ => 0)) : va_E) := by rfl
theorem ec_69 : xcf (xsa 69) (m0 69) = (.inl (0, 4, .inl (fun _ => 0)) : va_E) := by rfl
theorem ec_70 : xcf (xsa 70) (m0 70) = (.inl (0, 4, .inl (fun _ => 0)) : va_E) := by rfl
theorem ec_71 : xcf (xsa 71) (m0 71) = (.inl (0, 4, .inl (fun _ => 0)) : va_E) := by rfl
theorem ec_72 : xcf (xsa 72) (m0 72) = (.inl (0, 24, .inl (fun _ => 0)) : va_E) := by rfl
theorem ec_73 : xcf (xsa 73) (m0 73) = (.inl (0, 6, .inl (fun _ => 0)) : va_E) := by rfl
theorem ec_74 : xcf (xsa 74) (m0 74) = (.inl (0, 5, .inl (fun _ => 0)) : va_E) := by rfl
theorem ec_75 : xcf (xsa 75) (m0 75) = (.inl (0, 6, .inl (fun _ => 0)) : va_E) := by rfl
theorem ec_76 : xcf (xsa 76) (m0 76) = (.inl (0, 6, .inl (fun _ => 0)) : va_E) := by rfl
theorem ec_77 : xcf (xsa 77) (m0 77) = (.inl (0, 2500, .inl (fun _ => 0)) : va_E) := by rfl
theorem ec_78 : xcf (xsa 78) (m0 78) = (.inr (12, [.ref 79, .int 0, .int 0, .int 0, .int 0, .int 0, .int 0, .int 0, .int (-1), .ref 80, .ref 81, .ref 82, .ref 83, .ref 84, .ref 85, .ref 86, .ref 87, .ref 88, .ref 89, .ref 90, .ref 91, .ref 92, .ref 93, .ref 94, .ref 95, .ref 96, .ref 97, .ref 98, .ref 99, .ref 100, .int 0, .ref 101, .ref 102, .ref 103, .ref 104, .ref 105, .ref 106, .ref 107, .ref 108, .ref 109, .int 0, .int 0, .int 0, .ref 110, .ref 111, .ref 112, .int 0, .int 0, .int 0, .int 0, .int 0, .ref 113, .ref 114, .ref 115, .ref 116, .int 0, .int (-1), .int (-1), .int 0, .ref 117, .ref 118, .int 0, .int 0, .long 1, .ref 119, .ref 120, .ref 121, .ref 122, .ref 123, .ref 124, .ref 125, .ref 126, .ref 127, .ref 128, .ref 129, .ref 130, .ref 131, .ref 132, .ref 133, .ref 134, .ref 135, .ref 136, .ref 137, .ref 138, .int 0, .ref 139, .int 0, .int 0, .int 0, .ref 140, .int 0, .long 0, .int 0, .ref 141, .int 0]) : va_E) := by rfl
theorem ec_79 : xcf (xsa 79) (m0 79) = (.inl (0, 1600, .inl (fun _ => 0)) : va_E) := by rfl
theorem ec_80 : xcf (xsa 80) (m0 80) = (.inl (0, 6, .inl (fun _ => 0)) : va_E) := by rfl
theorem ec_81 : xcf (xsa 81) (m0 81) = (.inl (2, 4, .inl (upd (upd (upd (upd (fun _ => 0) 0 (vp_nar .char 108)) 1 (vp_nar .char 111)) 2 (vp_nar .char 99)) 3 (vp_nar .char 107))) : va_E) := ec_ch (fun i => match i with
  | 0 => rfl
  | 1 => rfl
  | 2 => rfl
  | 3 => rfl
  | i + 4 => rfl)
theorem ec_82 : xcf (xsa 82) (m0 82) = (.inl (2, 5, .inl (upd (upd (upd (upd (upd (fun _ => 0) 0 (vp_nar .char 119)) 1 (vp_nar .char 97)) 2 (vp_nar .char 114)) 3 (vp_nar .char 100)) 4 (vp_nar .char 115))) : va_E) := ec_ch (fun i => match i with
  | 0 => rfl
  | 1 => rfl
  | 2 => rfl
  | 3 => rfl
  | 4 => rfl
  | i + 5 => rfl)
theorem ec_83 : xcf (xsa 83) (m0 83) = (.inl (2, 2, .inl (upd (upd (fun _ => 0) 0 (vp_nar .char 97)) 1 (vp_nar .char 116))) : va_E) := ec_ch (fun i => match i with
  | 0 => rfl
  | 1 => rfl
  | i + 2 => rfl)
theorem ec_84 : xcf (xsa 84) (m0 84) = (.inl (2, 4, .inl (upd (upd (upd (upd (fun _ => 0) 0 (vp_nar .char 106)) 1 (vp_nar .char 97)) 2 (vp_nar .char 109)) 3 (vp_nar .char 115))) : va_E) := ec_ch (fun i => match i with
  | 0 => rfl
  | 1 => rfl
  | 2 => rfl
  | 3 => rfl
  | i + 4 => rfl)
theorem ec_85 : xcf (xsa 85) (m0 85) = (.inl (2, 4, .inl (upd (upd (upd (upd (fun _ => 0) 0 (vp_nar .char 110)) 1 (vp_nar .char 111)) 2 (vp_nar .char 116)) 3 (vp_nar .char 101))) : va_E) := ec_ch (fun i => match i with
  | 0 => rfl
  | 1 => rfl
  | 2 => rfl
  | 3 => rfl
  | i + 4 => rfl)
theorem ec_86 : xcf (xsa 86) (m0 86) = (.inl (2, 5, .inl (upd (upd (upd (upd (upd (fun _ => 0) 0 (vp_nar .char 116)) 1 (vp_nar .char 117)) 2 (vp_nar .char 114)) 3 (vp_nar .char 110)) 4 (vp_nar .char 115))) : va_E) := ec_ch (fun i => match i with
  | 0 => rfl
  | 1 => rfl
  | 2 => rfl
  | 3 => rfl
  | 4 => rfl
  | i + 5 => rfl)
theorem ec_87 : xcf (xsa 87) (m0 87) = (.inl (2, 4, .inl (upd (upd (upd (upd (fun _ => 0) 0 (vp_nar .char 100)) 1 (vp_nar .char 111)) 2 (vp_nar .char 111)) 3 (vp_nar .char 114))) : va_E) := ec_ch (fun i => match i with
  | 0 => rfl
  | 1 => rfl
  | 2 => rfl
  | 3 => rfl
  | i + 4 => rfl)
theorem ec_88 : xcf (xsa 88) (m0 88) = (.inl (2, 5, .inl (upd (upd (upd (upd (upd (fun _ => 0) 0 (vp_nar .char 111)) 1 (vp_nar .char 112)) 2 (vp_nar .char 101)) 3 (vp_nar .char 110)) 4 (vp_nar .char 115))) : va_E) := ec_ch (fun i => match i with
  | 0 => rfl
  | 1 => rfl
  | 2 => rfl
  | 3 => rfl
  | 4 => rfl
  | i + 5 => rfl)
theorem ec_89 : xcf (xsa 89) (m0 89) = (.inl (2, 6, .inl (upd (upd (upd (upd (upd (upd (fun _ => 0) 0 (vp_nar .char 112)) 1 (vp_nar .char 108)) 2 (vp_nar .char 97)) 3 (vp_nar .char 121)) 4 (vp_nar .char 101)) 5 (vp_nar .char 114))) : va_E) := ec_ch (fun i => match i with
  | 0 => rfl
  | 1 => rfl
  | 2 => rfl
  | 3 => rfl
  | 4 => rfl
  | 5 => rfl
  | i + 6 => rfl)
theorem ec_90 : xcf (xsa 90) (m0 90) = (.inl (2, 5, .inl (upd (upd (upd (upd (upd (fun _ => 0) 0 (vp_nar .char 112)) 1 (vp_nar .char 108)) 2 (vp_nar .char 97)) 3 (vp_nar .char 121)) 4 (vp_nar .char 115))) : va_E) := ec_ch (fun i => match i with
  | 0 => rfl
  | 1 => rfl
  | 2 => rfl
  | 3 => rfl
  | 4 => rfl
  | i + 5 => rfl)
theorem ec_91 : xcf (xsa 91) (m0 91) = (.inl (2, 4, .inl (upd (upd (upd (upd (fun _ => 0) 0 (vp_nar .char 114)) 1 (vp_nar .char 117)) 2 (vp_nar .char 115)) 3 (vp_nar .char 116))) : va_E) := ec_ch (fun i => match i with
  | 0 => rfl
  | 1 => rfl
  | 2 => rfl
  | 3 => rfl
  | i + 4 => rfl)
theorem ec_92 : xcf (xsa 92) (m0 92) = (.inl (2, 4, .inl (upd (upd (upd (upd (fun _ => 0) 0 (vp_nar .char 119)) 1 (vp_nar .char 97)) 2 (vp_nar .char 114)) 3 (vp_nar .char 100))) : va_E) := ec_ch (fun i => match i with
  | 0 => rfl
  | 1 => rfl
  | 2 => rfl
  | 3 => rfl
  | i + 4 => rfl)
theorem ec_93 : xcf (xsa 93) (m0 93) = (.inl (2, 5, .inl (upd (upd (upd (upd (upd (fun _ => 0) 0 (vp_nar .char 115)) 1 (vp_nar .char 116)) 2 (vp_nar .char 117)) 3 (vp_nar .char 99)) 4 (vp_nar .char 107))) : va_E) := ec_ch (fun i => match i with
  | 0 => rfl
  | 1 => rfl
  | 2 => rfl
  | 3 => rfl
  | 4 => rfl
  | i + 5 => rfl)
theorem ec_94 : xcf (xsa 94) (m0 94) = (.inl (2, 6, .inl (upd (upd (upd (upd (upd (upd (fun _ => 0) 0 (vp_nar .char 110)) 1 (vp_nar .char 117)) 2 (vp_nar .char 109)) 3 (vp_nar .char 98)) 4 (vp_nar .char 101)) 5 (vp_nar .char 114))) : va_E) := ec_ch (fun i => match i with
  | 0 => rfl
  | 1 => rfl
  | 2 => rfl
  | 3 => rfl
  | 4 => rfl
  | 5 => rfl
  | i + 6 => rfl)
theorem ec_95 : xcf (xsa 95) (m0 95) = (.inl (2, 2, .inl (upd (upd (fun _ => 0) 0 (vp_nar .char 111)) 1 (vp_nar .char 114))) : va_E) := ec_ch (fun i => match i with
  | 0 => rfl
  | 1 => rfl
  | i + 2 => rfl)
theorem ec_96 : xcf (xsa 96) (m0 96) = (.inl (2, 3, .inl (upd (upd (upd (fun _ => 0) 0 (vp_nar .char 97)) 1 (vp_nar .char 110)) 2 (vp_nar .char 100))) : va_E) := ec_ch (fun i => match i with
  | 0 => rfl
  | 1 => rfl
  | 2 => rfl
  | i + 3 => rfl)
theorem ec_97 : xcf (xsa 97) (m0 97) = (.inl (2, 3, .inl (upd (upd (upd (fun _ => 0) 0 (vp_nar .char 110)) 1 (vp_nar .char 111)) 2 (vp_nar .char 116))) : va_E) := ec_ch (fun i => match i with
  | 0 => rfl
  | 1 => rfl
  | 2 => rfl
  | i + 3 => rfl)
theorem ec_98 : xcf (xsa 98) (m0 98) = (.inl (2, 3, .inl (upd (upd (upd (fun _ => 0) 0 (vp_nar .char 97)) 1 (vp_nar .char 108)) 2 (vp_nar .char 108))) : va_E) := ec_ch (fun i => match i with
  | 0 => rfl
  | 1 => rfl
  | 2 => rfl
  | i + 3 => rfl)
theorem ec_99 : xcf (xsa 99) (m0 99) = (.inl (2, 3, .inl (upd (upd (upd (fun _ => 0) 0 (vp_nar .char 109)) 1 (vp_nar .char 105)) 2 (vp_nar .char 110))) : va_E) := ec_ch (fun i => match i with
  | 0 => rfl
  | 1 => rfl
  | 2 => rfl
  | i + 3 => rfl)
theorem ec_100 : xcf (xsa 100) (m0 100) = (.inl (2, 3, .inl (upd (upd (upd (fun _ => 0) 0 (vp_nar .char 109)) 1 (vp_nar .char 97)) 2 (vp_nar .char 120))) : va_E) := ec_ch (fun i => match i with
  | 0 => rfl
  | 1 => rfl
  | 2 => rfl
  | i + 3 => rfl)
theorem ec_101 : xcf (xsa 101) (m0 101) = (.inl (0, 8, .inl (fun _ => 0)) : va_E) := by rfl
theorem ec_102 : xcf (xsa 102) (m0 102) = (.inl (1, 48, .inr (.inl (fun _ => 0))) : va_E) := by rfl
theorem ec_103 : xcf (xsa 103) (m0 103) = (.inl (0, 24, .inl (fun _ => 0)) : va_E) := by rfl
theorem ec_104 : xcf (xsa 104) (m0 104) = (.inl (0, 48, .inl (fun _ => 0)) : va_E) := by rfl
theorem ec_105 : xcf (xsa 105) (m0 105) = (.inl (0, 10, .inl (fun _ => 0)) : va_E) := by rfl
theorem ec_106 : xcf (xsa 106) (m0 106) = (.inl (0, 2, .inl (fun _ => 0)) : va_E) := by rfl
theorem ec_107 : xcf (xsa 107) (m0 107) = (.inl (0, 12, .inl (fun _ => 0)) : va_E) := by rfl
theorem ec_108 : xcf (xsa 108) (m0 108) = (.inl (0, 12, .inl (fun _ => 0)) : va_E) := by rfl
theorem ec_109 : xcf (xsa 109) (m0 109) = (.inl (0, 3200, .inl (fun _ => 0)) : va_E) := by rfl
theorem ec_110 : xcf (xsa 110) (m0 110) = (.inl (0, 127, .inl (fun _ => 0)) : va_E) := by rfl
theorem ec_111 : xcf (xsa 111) (m0 111) = (.inl (0, 127, .inl (fun _ => 0)) : va_E) := by rfl
theorem ec_112 : xcf (xsa 112) (m0 112) = (.inl (0, 20, .inl (fun _ => 0)) : va_E) := by rfl
theorem ec_113 : xcf (xsa 113) (m0 113) = (.inl (0, 10000, .inl (fun _ => 0)) : va_E) := by rfl
theorem ec_114 : xcf (xsa 114) (m0 114) = (.inl (0, 10000, .inl (fun _ => 0)) : va_E) := by rfl
theorem ec_115 : xcf (xsa 115) (m0 115) = (.inl (0, 10000, .inl (fun _ => 0)) : va_E) := by rfl
theorem ec_116 : xcf (xsa 116) (m0 116) = (.inl (0, 10000, .inl (fun _ => 0)) : va_E) := by rfl
theorem ec_117 : xcf (xsa 117) (m0 117) = (.inl (0, 40, .inl (fun _ => 0)) : va_E) := by rfl
theorem ec_118 : xcf (xsa 118) (m0 118) = (.inl (0, 2540, .inl (fun _ => 0)) : va_E) := by rfl
theorem ec_119 : xcf (xsa 119) (m0 119) = (.inl (2, 5, .inl (upd (upd (upd (upd (upd (fun _ => 0) 0 (vp_nar .char 102)) 1 (vp_nar .char 105)) 2 (vp_nar .char 114)) 3 (vp_nar .char 115)) 4 (vp_nar .char 116))) : va_E) := ec_ch (fun i => match i with
  | 0 => rfl
  | 1 => rfl
  | 2 => rfl
  | 3 => rfl
  | 4 => rfl
  | i + 5 => rfl)
theorem ec_120 : xcf (xsa 120) (m0 120) = (.inl (2, 4, .inl (upd (upd (upd (upd (fun _ => 0) 0 (vp_nar .char 108)) 1 (vp_nar .char 97)) 2 (vp_nar .char 115)) 3 (vp_nar .char 116))) : va_E) := ec_ch (fun i => match i with
  | 0 => rfl
  | 1 => rfl
  | 2 => rfl
  | 3 => rfl
  | i + 4 => rfl)
theorem ec_121 : xcf (xsa 121) (m0 121) = (.inl (2, 5, .inl (upd (upd (upd (upd (upd (fun _ => 0) 0 (vp_nar .char 111)) 1 (vp_nar .char 102)) 2 (vp_nar .char 116)) 3 (vp_nar .char 101)) 4 (vp_nar .char 110))) : va_E) := ec_ch (fun i => match i with
  | 0 => rfl
  | 1 => rfl
  | 2 => rfl
  | 3 => rfl
  | 4 => rfl
  | i + 5 => rfl)
theorem ec_122 : xcf (xsa 122) (m0 122) = (.inl (2, 5, .inl (upd (upd (upd (upd (upd (fun _ => 0) 0 (vp_nar .char 116)) 1 (vp_nar .char 111)) 2 (vp_nar .char 116)) 3 (vp_nar .char 97)) 4 (vp_nar .char 108))) : va_E) := ec_ch (fun i => match i with
  | 0 => rfl
  | 1 => rfl
  | 2 => rfl
  | 3 => rfl
  | 4 => rfl
  | i + 5 => rfl)
theorem ec_123 : xcf (xsa 123) (m0 123) = (.inl (2, 4, .inl (upd (upd (upd (upd (fun _ => 0) 0 (vp_nar .char 109)) 1 (vp_nar .char 111)) 2 (vp_nar .char 115)) 3 (vp_nar .char 116))) : va_E) := ec_ch (fun i => match i with
  | 0 => rfl
  | 1 => rfl
  | 2 => rfl
  | 3 => rfl
  | i + 4 => rfl)
theorem ec_124 : xcf (xsa 124) (m0 124) = (.inl (2, 5, .inl (upd (upd (upd (upd (upd (fun _ => 0) 0 (vp_nar .char 108)) 1 (vp_nar .char 101)) 2 (vp_nar .char 97)) 3 (vp_nar .char 115)) 4 (vp_nar .char 116))) : va_E) := ec_ch (fun i => match i with
  | 0 => rfl
  | 1 => rfl
  | 2 => rfl
  | 3 => rfl
  | 4 => rfl
  | i + 5 => rfl)
theorem ec_125 : xcf (xsa 125) (m0 125) = (.inl (2, 3, .inl (upd (upd (upd (fun _ => 0) 0 (vp_nar .char 110)) 1 (vp_nar .char 111)) 2 (vp_nar .char 116))) : va_E) := ec_ch (fun i => match i with
  | 0 => rfl
  | 1 => rfl
  | 2 => rfl
  | i + 3 => rfl)
theorem ec_126 : xcf (xsa 126) (m0 126) = (.inl (2, 3, .inl (upd (upd (upd (fun _ => 0) 0 (vp_nar .char 97)) 1 (vp_nar .char 110)) 2 (vp_nar .char 100))) : va_E) := ec_ch (fun i => match i with
  | 0 => rfl
  | 1 => rfl
  | 2 => rfl
  | i + 3 => rfl)
theorem ec_127 : xcf (xsa 127) (m0 127) = (.inl (2, 2, .inl (upd (upd (fun _ => 0) 0 (vp_nar .char 111)) 1 (vp_nar .char 114))) : va_E) := ec_ch (fun i => match i with
  | 0 => rfl
  | 1 => rfl
  | i + 2 => rfl)
theorem ec_128 : xcf (xsa 128) (m0 128) = (.inl (2, 3, .inl (upd (upd (upd (fun _ => 0) 0 (vp_nar .char 97)) 1 (vp_nar .char 108)) 2 (vp_nar .char 108))) : va_E) := ec_ch (fun i => match i with
  | 0 => rfl
  | 1 => rfl
  | 2 => rfl
  | i + 3 => rfl)
theorem ec_129 : xcf (xsa 129) (m0 129) = (.inl (2, 3, .inl (upd (upd (upd (fun _ => 0) 0 (vp_nar .char 109)) 1 (vp_nar .char 105)) 2 (vp_nar .char 110))) : va_E) := ec_ch (fun i => match i with
  | 0 => rfl
  | 1 => rfl
  | 2 => rfl
  | i + 3 => rfl)
theorem ec_130 : xcf (xsa 130) (m0 130) = (.inl (2, 3, .inl (upd (upd (upd (fun _ => 0) 0 (vp_nar .char 109)) 1 (vp_nar .char 97)) 2 (vp_nar .char 120))) : va_E) := ec_ch (fun i => match i with
  | 0 => rfl
  | 1 => rfl
  | 2 => rfl
  | i + 3 => rfl)
theorem ec_131 : xcf (xsa 131) (m0 131) = (.inl (2, 4, .inl (upd (upd (upd (upd (fun _ => 0) 0 (vp_nar .char 106)) 1 (vp_nar .char 97)) 2 (vp_nar .char 109)) 3 (vp_nar .char 115))) : va_E) := ec_ch (fun i => match i with
  | 0 => rfl
  | 1 => rfl
  | 2 => rfl
  | 3 => rfl
  | i + 4 => rfl)
theorem ec_132 : xcf (xsa 132) (m0 132) = (.inl (2, 6, .inl (upd (upd (upd (upd (upd (upd (fun _ => 0) 0 (vp_nar .char 110)) 1 (vp_nar .char 117)) 2 (vp_nar .char 109)) 3 (vp_nar .char 98)) 4 (vp_nar .char 101)) 5 (vp_nar .char 114))) : va_E) := ec_ch (fun i => match i with
  | 0 => rfl
  | 1 => rfl
  | 2 => rfl
  | 3 => rfl
  | 4 => rfl
  | 5 => rfl
  | i + 6 => rfl)
theorem ec_133 : xcf (xsa 133) (m0 133) = (.inl (2, 5, .inl (upd (upd (upd (upd (upd (fun _ => 0) 0 (vp_nar .char 119)) 1 (vp_nar .char 97)) 2 (vp_nar .char 114)) 3 (vp_nar .char 100)) 4 (vp_nar .char 115))) : va_E) := ec_ch (fun i => match i with
  | 0 => rfl
  | 1 => rfl
  | 2 => rfl
  | 3 => rfl
  | 4 => rfl
  | i + 5 => rfl)
theorem ec_134 : xcf (xsa 134) (m0 134) = (.inl (2, 4, .inl (upd (upd (upd (upd (fun _ => 0) 0 (vp_nar .char 119)) 1 (vp_nar .char 97)) 2 (vp_nar .char 114)) 3 (vp_nar .char 100))) : va_E) := ec_ch (fun i => match i with
  | 0 => rfl
  | 1 => rfl
  | 2 => rfl
  | 3 => rfl
  | i + 4 => rfl)
theorem ec_135 : xcf (xsa 135) (m0 135) = (.inl (2, 5, .inl (upd (upd (upd (upd (upd (fun _ => 0) 0 (vp_nar .char 115)) 1 (vp_nar .char 116)) 2 (vp_nar .char 117)) 3 (vp_nar .char 99)) 4 (vp_nar .char 107))) : va_E) := ec_ch (fun i => match i with
  | 0 => rfl
  | 1 => rfl
  | 2 => rfl
  | 3 => rfl
  | 4 => rfl
  | i + 5 => rfl)
theorem ec_136 : xcf (xsa 136) (m0 136) = (.inl (2, 2, .inl (upd (upd (fun _ => 0) 0 (vp_nar .char 97)) 1 (vp_nar .char 116))) : va_E) := ec_ch (fun i => match i with
  | 0 => rfl
  | 1 => rfl
  | i + 2 => rfl)
theorem ec_137 : xcf (xsa 137) (m0 137) = (.inl (2, 5, .inl (upd (upd (upd (upd (upd (fun _ => 0) 0 (vp_nar .char 116)) 1 (vp_nar .char 117)) 2 (vp_nar .char 114)) 3 (vp_nar .char 110)) 4 (vp_nar .char 115))) : va_E) := ec_ch (fun i => match i with
  | 0 => rfl
  | 1 => rfl
  | 2 => rfl
  | 3 => rfl
  | 4 => rfl
  | i + 5 => rfl)
theorem ec_138 : xcf (xsa 138) (m0 138) = (.inl (0, 1700, .inl (fun _ => 0)) : va_E) := by rfl
theorem ec_139 : xcf (xsa 139) (m0 139) = (.inl (0, 1700, .inl (fun _ => 0)) : va_E) := by rfl
theorem ec_140 : xcf (xsa 140) (m0 140) = (.inl (1, 1700, .inr (.inl (fun _ => 0))) : va_E) := by rfl
theorem ec_141 : xcf (xsa 141) (m0 141) = (.inl (0, 11, .inl (fun _ => 0)) : va_E) := by rfl
set_option maxRecDepth 100000 in
theorem enc_ph : enc m0 = ph := by
  show [xcf (xsa 0) (m0 0), xcf (xsa 1) (m0 1), xcf (xsa 2) (m0 2), xcf (xsa 3) (m0 3), xcf (xsa 4) (m0 4), xcf (xsa 5) (m0 5), xcf (xsa 6) (m0 6), xcf (xsa 7) (m0 7), xcf (xsa 8) (m0 8), xcf (xsa 9) (m0 9), xcf (xsa 10) (m0 10), xcf (xsa 11) (m0 11), xcf (xsa 12) (m0 12), xcf (xsa 13) (m0 13), xcf (xsa 14) (m0 14), xcf (xsa 15) (m0 15), xcf (xsa 16) (m0 16), xcf (xsa 17) (m0 17), xcf (xsa 18) (m0 18), xcf (xsa 19) (m0 19), xcf (xsa 20) (m0 20), xcf (xsa 21) (m0 21), xcf (xsa 22) (m0 22), xcf (xsa 23) (m0 23), xcf (xsa 24) (m0 24), xcf (xsa 25) (m0 25), xcf (xsa 26) (m0 26), xcf (xsa 27) (m0 27), xcf (xsa 28) (m0 28), xcf (xsa 29) (m0 29), xcf (xsa 30) (m0 30), xcf (xsa 31) (m0 31), xcf (xsa 32) (m0 32), xcf (xsa 33) (m0 33), xcf (xsa 34) (m0 34), xcf (xsa 35) (m0 35), xcf (xsa 36) (m0 36), xcf (xsa 37) (m0 37), xcf (xsa 38) (m0 38), xcf (xsa 39) (m0 39), xcf (xsa 40) (m0 40), xcf (xsa 41) (m0 41), xcf (xsa 42) (m0 42), xcf (xsa 43) (m0 43), xcf (xsa 44) (m0 44), xcf (xsa 45) (m0 45), xcf (xsa 46) (m0 46), xcf (xsa 47) (m0 47), xcf (xsa 48) (m0 48), xcf (xsa 49) (m0 49), xcf (xsa 50) (m0 50), xcf (xsa 51) (m0 51), xcf (xsa 52) (m0 52), xcf (xsa 53) (m0 53), xcf (xsa 54) (m0 54), xcf (xsa 55) (m0 55), xcf (xsa 56) (m0 56), xcf (xsa 57) (m0 57), xcf (xsa 58) (m0 58), xcf (xsa 59) (m0 59), xcf (xsa 60) (m0 60), xcf (xsa 61) (m0 61), xcf (xsa 62) (m0 62), xcf (xsa 63) (m0 63), xcf (xsa 64) (m0 64), xcf (xsa 65) (m0 65), xcf (xsa 66) (m0 66), xcf (xsa 67) (m0 67), xcf (xsa 68) (m0 68), xcf (xsa 69) (m0 69), xcf (xsa 70) (m0 70), xcf (xsa 71) (m0 71), xcf (xsa 72) (m0 72), xcf (xsa 73) (m0 73), xcf (xsa 74) (m0 74), xcf (xsa 75) (m0 75), xcf (xsa 76) (m0 76), xcf (xsa 77) (m0 77), xcf (xsa 78) (m0 78), xcf (xsa 79) (m0 79), xcf (xsa 80) (m0 80), xcf (xsa 81) (m0 81), xcf (xsa 82) (m0 82), xcf (xsa 83) (m0 83), xcf (xsa 84) (m0 84), xcf (xsa 85) (m0 85), xcf (xsa 86) (m0 86), xcf (xsa 87) (m0 87), xcf (xsa 88) (m0 88), xcf (xsa 89) (m0 89), xcf (xsa 90) (m0 90), xcf (xsa 91) (m0 91), xcf (xsa 92) (m0 92), xcf (xsa 93) (m0 93), xcf (xsa 94) (m0 94), xcf (xsa 95) (m0 95), xcf (xsa 96) (m0 96), xcf (xsa 97) (m0 97), xcf (xsa 98) (m0 98), xcf (xsa 99) (m0 99), xcf (xsa 100) (m0 100), xcf (xsa 101) (m0 101), xcf (xsa 102) (m0 102), xcf (xsa 103) (m0 103), xcf (xsa 104) (m0 104), xcf (xsa 105) (m0 105), xcf (xsa 106) (m0 106), xcf (xsa 107) (m0 107), xcf (xsa 108) (m0 108), xcf (xsa 109) (m0 109), xcf (xsa 110) (m0 110), xcf (xsa 111) (m0 111), xcf (xsa 112) (m0 112), xcf (xsa 113) (m0 113), xcf (xsa 114) (m0 114), xcf (xsa 115) (m0 115), xcf (xsa 116) (m0 116), xcf (xsa 117) (m0 117), xcf (xsa 118) (m0 118), xcf (xsa 119) (m0 119), xcf (xsa 120) (m0 120), xcf (xsa 121) (m0 121), xcf (xsa 122) (m0 122), xcf (xsa 123) (m0 123), xcf (xsa 124) (m0 124), xcf (xsa 125) (m0 125), xcf (xsa 126) (m0 126), xcf (xsa 127) (m0 127), xcf (xsa 128) (m0 128), xcf (xsa 129) (m0 129), xcf (xsa 130) (m0 130), xcf (xsa 131) (m0 131), xcf (xsa 132) (m0 132), xcf (xsa 133) (m0 133), xcf (xsa 134) (m0 134), xcf (xsa 135) (m0 135), xcf (xsa 136) (m0 136), xcf (xsa 137) (m0 137), xcf (xsa 138) (m0 138), xcf (xsa 139) (m0 139), xcf (xsa 140) (m0 140), xcf (xsa 141) (m0 141)] = ph
  rw [ec_0, ec_1, ec_2, ec_3, ec_4, ec_5, ec_6, ec_7, ec_8, ec_9, ec_10, ec_11, ec_12, ec_13, ec_14, ec_15, ec_16, ec_17, ec_18, ec_19]
  rw [ec_20, ec_21, ec_22, ec_23, ec_24, ec_25, ec_26, ec_27, ec_28, ec_29, ec_30, ec_31, ec_32, ec_33, ec_34, ec_35, ec_36, ec_37, ec_38, ec_39]
  rw [ec_40, ec_41, ec_42, ec_43, ec_44, ec_45, ec_46, ec_47, ec_48, ec_49, ec_50, ec_51, ec_52, ec_53, ec_54, ec_55, ec_56, ec_57, ec_58, ec_59]
  rw [ec_60, ec_61, ec_62, ec_63, ec_64, ec_65, ec_66, ec_67, ec_68, ec_69, ec_70, ec_71, ec_72, ec_73, ec_74, ec_75, ec_76, ec_77, ec_78, ec_79]
  rw [ec_80, ec_81, ec_82, ec_83, ec_84, ec_85, ec_86, ec_87, ec_88, ec_89, ec_90, ec_91, ec_92, ec_93, ec_94, ec_95, ec_96, ec_97, ec_98, ec_99]
  rw [ec_100, ec_101, ec_102, ec_103, ec_104, ec_105, ec_106, ec_107, ec_108, ec_109, ec_110, ec_111, ec_112, ec_113, ec_114, ec_115, ec_116, ec_117, ec_118, ec_119]
  rw [ec_120, ec_121, ec_122, ec_123, ec_124, ec_125, ec_126, ec_127, ec_128, ec_129, ec_130, ec_131, ec_132, ec_133, ec_134, ec_135, ec_136, ec_137, ec_138, ec_139]
  rw [ec_140, ec_141]
  rfl
set_option maxRecDepth 100000 in
theorem p_size : ph.length ≤ room_1.cells ∧ am_sz ph ≤ room_1.slots := by decide +kernel
theorem whole_start {p : Program} {e : Env} {s : State} {m : MethodId} {below : List Frame} {meth : Method} {c : Code} (l : Launch) {b L : Nat} {xs : Nat → Int32} (hL : L ≤ 3072) (C0 : lw_At p s m meth c b L xs) : W p l e room_1 s m #[Value.ref b] below meth c s.heap [] 0 0 (lw_Z below #[Value.ref b] s) (entryFrame m ([Value.ref b] : List Value).toArray 4) := by
  refine am_start am_okM am_dL l C0 (fun bz => ?_)
  obtain ⟨f, m', h⟩ := law_all (L := L) (xs := xs) (by omega)
  have cv : xcov [(0, .ref 2000001), (1, .ref 0), (2, .ref 78), (3, .int (i32 0))] [(3, .int 0), (2, .ref 78), (1, .ref 0), (0, .ref 2000001)] := by
    have ha : xall [(3, .int 0), (2, .ref 78), (1, .ref 0), (0, .ref 2000001)] [(0, .ref 2000001), (1, .ref 0), (2, .ref 78), (3, .int (i32 0))] := ⟨rfl, rfl, rfl, rfl, trivial⟩
    exact ⟨xndk_ok rfl, fun i v hv => xall_mem ha _ (am_ld_mem hv)⟩
  obtain ⟨⟨fu, h1⟩, h2, h3⟩ := s_lw_law_18 (L := L) (xs := xs) (bz := bz) (d := 2000) (by decide) f (v3 := 0) (m := m0) (1, m') h _ cv
  rw [enc_ph] at h1 h2 h3
  obtain ⟨f2, h4⟩ := p_beg (E := am_E L xs bz) (r := some (.int 1)) (hp1 := enc m') ⟨fu, h1⟩
  exact ⟨f2, enc m', h4, by rw [h2]; exact p_size.1, by rw [h3]; exact p_size.2⟩
