abbrev M_X10_init : z_M := (RX10, yX10_init, cX10_init, 2, none)
theorem yo_X10 : y_mo M_X10_init := ⟨tb_9, tb_2, rfl, ⟨by decide +kernel, by decide +kernel⟩, by decide +kernel, by decide, tb_8, rfl, rfl⟩
abbrev M_X9_init : z_M := (RX9, yX9_init, cX9_init, 2, none)
theorem yo_X9 : y_mo M_X9_init := ⟨tb_57, tb_15, rfl, ⟨by decide +kernel, by decide +kernel⟩, by decide +kernel, by decide, tb_56, rfl, rfl⟩
abbrev M_X0_init : z_M := (RX0, yX0_init, cX0_init, 1, none)
theorem yo_X0 : y_mo M_X0_init := ⟨tb_63, tb_19, rfl, ⟨by decide +kernel, by decide +kernel⟩, by decide +kernel, by decide, tb_62, rfl, rfl⟩
abbrev M_X1_init : z_M := (RX1, yX1_init, cX1_init, 1, none)
theorem yo_X1 : y_mo M_X1_init := ⟨tb_71, tb_23, rfl, ⟨by decide +kernel, by decide +kernel⟩, by decide +kernel, by decide, tb_70, rfl, rfl⟩
abbrev M_X6_init : z_M := (RX6, yX6_init, cX6_init, 1, none)
theorem yo_X6 : y_mo M_X6_init := ⟨tb_81, tb_29, rfl, ⟨by decide +kernel, by decide +kernel⟩, by decide +kernel, by decide, tb_80, rfl, rfl⟩
abbrev M_X4_init : z_M := (RX4, yX4_init, cX4_init, 1, none)
theorem yo_X4 : y_mo M_X4_init := ⟨tb_91, tb_33, rfl, ⟨by decide +kernel, by decide +kernel⟩, by decide +kernel, by decide, tb_90, rfl, rfl⟩
abbrev M_X2_init : z_M := (RX2, yX2_init, cX2_init, 2, none)
theorem yo_X2 : y_mo M_X2_init := ⟨tb_97, tb_37, rfl, ⟨by decide +kernel, by decide +kernel⟩, by decide +kernel, by decide, tb_96, rfl, rfl⟩
abbrev M_X7_init : z_M := (RX7, yX7_init, cX7_init, 1, none)
theorem yo_X7 : y_mo M_X7_init := ⟨tb_108, tb_41, rfl, ⟨by decide +kernel, by decide +kernel⟩, by decide +kernel, by decide, tb_107, rfl, rfl⟩
abbrev M_X3_init : z_M := (RX3, yX3_init, cX3_init, 1, none)
theorem yo_X3 : y_mo M_X3_init := ⟨tb_115, tb_45, rfl, ⟨by decide +kernel, by decide +kernel⟩, by decide +kernel, by decide, tb_114, rfl, rfl⟩
abbrev M_X5_init : z_M := (RX5, yX5_init, cX5_init, 1, none)
theorem yo_X5 : y_mo M_X5_init := ⟨tb_121, tb_49, rfl, ⟨by decide +kernel, by decide +kernel⟩, by decide +kernel, by decide, tb_120, rfl, rfl⟩
abbrev M_X8_init : z_M := (RX8, yX8_init, cX8_init, 1, none)
theorem yo_X8 : y_mo M_X8_init := ⟨tb_130, tb_54, rfl, ⟨by decide +kernel, by decide +kernel⟩, by decide +kernel, by decide, tb_129, rfl, rfl⟩
abbrev M_X11_init : z_M := (RX11, yX11_init, cX11_init, 2, none)
theorem yo_X11 : y_mo M_X11_init := ⟨tb_139, tb_5, rfl, ⟨by decide +kernel, by decide +kernel⟩, by decide +kernel, by decide, tb_138, rfl, rfl⟩
theorem vp_in_lit {i : Int32} {n : Nat} (h : ¬ (i < 0 ∨ n ≤ i.toNatClampNeg)) : vp_in i n := h
theorem y_weak {g : z_G} {M : z_M} {N ce sl pc : Nat} {K : z_K} {L L' : List (Option Value)} {st : List Value} {sh : z_H} (hw : z_wk L' L) (k : y_At g M K N ce sl pc L' st sh) : y_At g M K N ce sl pc L st sh := fun H locs ls hW hS hl => k H locs ls hW hS (hl.weak (z_wk_ok L' L hw))
theorem df_X10 : ∀ j, j < 12 → defaultValue (tyX10 j) = vp_V [.null, .null, .null, .null, .int 0, .null, .null, .null, .null, .null, .null, .null] j := by
  intro j hj
  match j, hj with
  | 0, _ => rfl
  | 1, _ => rfl
  | 2, _ => rfl
  | 3, _ => rfl
  | 4, _ => rfl
  | 5, _ => rfl
  | 6, _ => rfl
  | 7, _ => rfl
  | 8, _ => rfl
  | 9, _ => rfl
  | 10, _ => rfl
  | 11, _ => rfl
  | n + 12, h => exact absurd h (by omega)
theorem df_X9 : ∀ j, j < 2 → defaultValue (tyX9 j) = vp_V [.null, .int 0] j := by
  intro j hj
  match j, hj with
  | 0, _ => rfl
  | 1, _ => rfl
  | n + 2, h => exact absurd h (by omega)
theorem df_X0 : ∀ j, j < 5 → defaultValue (tyX0 j) = vp_V [.null, .null, .null, .int 0, .int 0] j := by
  intro j hj
  match j, hj with
  | 0, _ => rfl
  | 1, _ => rfl
  | 2, _ => rfl
  | 3, _ => rfl
  | 4, _ => rfl
  | n + 5, h => exact absurd h (by omega)
theorem df_X1 : ∀ j, j < 7 → defaultValue (tyX1 j) = vp_V [.null, .int 0, .int 0, .int 0, .null, .int 0, .int 0] j := by
  intro j hj
  match j, hj with
  | 0, _ => rfl
  | 1, _ => rfl
  | 2, _ => rfl
  | 3, _ => rfl
  | 4, _ => rfl
  | 5, _ => rfl
  | 6, _ => rfl
  | n + 7, h => exact absurd h (by omega)
theorem df_X6 : ∀ j, j < 7 → defaultValue (tyX6 j) = vp_V [.null, .int 0, .null, .int 0, .null, .int 0, .int 0] j := by
  intro j hj
  match j, hj with
  | 0, _ => rfl
  | 1, _ => rfl
  | 2, _ => rfl
  | 3, _ => rfl
  | 4, _ => rfl
  | 5, _ => rfl
  | 6, _ => rfl
  | n + 7, h => exact absurd h (by omega)
theorem df_X4 : ∀ j, j < 2 → defaultValue (tyX4 j) = vp_V [.long 0, .long 0] j := by
  intro j hj
  match j, hj with
  | 0, _ => rfl
  | 1, _ => rfl
  | n + 2, h => exact absurd h (by omega)
theorem df_X2 : ∀ j, j < 6 → defaultValue (tyX2 j) = vp_V [.int 0, .null, .null, .null, .long 0, .long 0] j := by
  intro j hj
  match j, hj with
  | 0, _ => rfl
  | 1, _ => rfl
  | 2, _ => rfl
  | 3, _ => rfl
  | 4, _ => rfl
  | 5, _ => rfl
  | n + 6, h => exact absurd h (by omega)
theorem df_X7 : ∀ j, j < 4 → defaultValue (tyX7 j) = vp_V [.null, .null, .int 0, .int 0] j := by
  intro j hj
  match j, hj with
  | 0, _ => rfl
  | 1, _ => rfl
  | 2, _ => rfl
  | 3, _ => rfl
  | n + 4, h => exact absurd h (by omega)
theorem df_X3 : ∀ j, j < 3 → defaultValue (tyX3 j) = vp_V [.int 0, .int 0, .int 0] j := by
  intro j hj
  match j, hj with
  | 0, _ => rfl
  | 1, _ => rfl
  | 2, _ => rfl
  | n + 3, h => exact absurd h (by omega)
theorem df_X5 : ∀ j, j < 6 → defaultValue (tyX5 j) = vp_V [.null, .int 0, .null, .int 0, .int 0, .int 0] j := by
  intro j hj
  match j, hj with
  | 0, _ => rfl
  | 1, _ => rfl
  | 2, _ => rfl
  | 3, _ => rfl
  | 4, _ => rfl
  | 5, _ => rfl
  | n + 6, h => exact absurd h (by omega)
theorem df_X8 : ∀ j, j < 5 → defaultValue (tyX8 j) = vp_V [.int 0, .int 0, .int 0, .int 0, .null] j := by
  intro j hj
  match j, hj with
  | 0, _ => rfl
  | 1, _ => rfl
  | 2, _ => rfl
  | 3, _ => rfl
  | 4, _ => rfl
  | n + 5, h => exact absurd h (by omega)
theorem df_X11 : ∀ j, j < 46 → defaultValue (tyX11 j) = vp_V [.null, .null, .null, .null, .int 0, .int 0, .int 0, .null, .null, .int 0, .int 0, .long 0, .long 0, .null, .int 0, .null, .int 0, .int 0, .int 0, .int 0, .int 0, .int 0, .null, .null, .null, .long 0, .null, .null, .int 0, .int 0, .int 0, .int 0, .null, .int 0, .int 0, .null, .int 0, .null, .null, .int 0, .int 0, .int 0, .null, .null, .null, .null] j := by
  intro j hj
  match j, hj with
  | 0, _ => rfl
  | 1, _ => rfl
  | 2, _ => rfl
  | 3, _ => rfl
  | 4, _ => rfl
  | 5, _ => rfl
  | 6, _ => rfl
  | 7, _ => rfl
  | 8, _ => rfl
  | 9, _ => rfl
  | 10, _ => rfl
  | 11, _ => rfl
  | 12, _ => rfl
  | 13, _ => rfl
  | 14, _ => rfl
  | 15, _ => rfl
  | 16, _ => rfl
  | 17, _ => rfl
  | 18, _ => rfl
  | 19, _ => rfl
  | 20, _ => rfl
  | 21, _ => rfl
  | 22, _ => rfl
  | 23, _ => rfl
  | 24, _ => rfl
  | 25, _ => rfl
  | 26, _ => rfl
  | 27, _ => rfl
  | 28, _ => rfl
  | 29, _ => rfl
  | 30, _ => rfl
  | 31, _ => rfl
  | 32, _ => rfl
  | 33, _ => rfl
  | 34, _ => rfl
  | 35, _ => rfl
  | 36, _ => rfl
  | 37, _ => rfl
  | 38, _ => rfl
  | 39, _ => rfl
  | 40, _ => rfl
  | 41, _ => rfl
  | 42, _ => rfl
  | 43, _ => rfl
  | 44, _ => rfl
  | 45, _ => rfl
  | n + 46, h => exact absurd h (by omega)
def w_X9_1_s1 (g : z_G) (sh : z_H) : z_H := z_u (sh) 2 (.inl (z_ac g 0, 75, .inl (fun _ => 0)))
def w_X9_1_s2 (g : z_G) (sh : z_H) : z_H := z_u (w_X9_1_s1 g sh) 1 (.inr (9, [.ref (z_ad g 2), .int 0]))
def w_X9_1_s3 (g : z_G) (sh : z_H) : z_H := z_u (w_X9_1_s2 g sh) 1 (.inr (9, [.ref (z_ad g 2), .int 0]))
def wf_X9_1_1 : Nat → Int32 := upd (fun _ => 0) 36 1
def w_X9_1_s4 (g : z_G) (sh : z_H) : z_H := z_u (w_X9_1_s3 g sh) 2 (.inl (z_ac g 0, 75, .inl wf_X9_1_1))
def wf_X9_1_2 : Nat → Int32 := upd wf_X9_1_1 38 5
def w_X9_1_s5 (g : z_G) (sh : z_H) : z_H := z_u (w_X9_1_s4 g sh) 2 (.inl (z_ac g 0, 75, .inl wf_X9_1_2))
def wf_X9_1_3 : Nat → Int32 := upd wf_X9_1_2 39 9
def w_X9_1_s6 (g : z_G) (sh : z_H) : z_H := z_u (w_X9_1_s5 g sh) 2 (.inl (z_ac g 0, 75, .inl wf_X9_1_3))
def wf_X9_1_4 : Nat → Int32 := upd wf_X9_1_3 40 9
def w_X9_1_s7 (g : z_G) (sh : z_H) : z_H := z_u (w_X9_1_s6 g sh) 2 (.inl (z_ac g 0, 75, .inl wf_X9_1_4))
def wf_X9_1_5 : Nat → Int32 := upd wf_X9_1_4 41 9
def w_X9_1_s8 (g : z_G) (sh : z_H) : z_H := z_u (w_X9_1_s7 g sh) 2 (.inl (z_ac g 0, 75, .inl wf_X9_1_5))
def wf_X9_1_6 : Nat → Int32 := upd wf_X9_1_5 42 9
def w_X9_1_s9 (g : z_G) (sh : z_H) : z_H := z_u (w_X9_1_s8 g sh) 2 (.inl (z_ac g 0, 75, .inl wf_X9_1_6))
def wf_X9_1_7 : Nat → Int32 := upd wf_X9_1_6 43 9
def w_X9_1_s10 (g : z_G) (sh : z_H) : z_H := z_u (w_X9_1_s9 g sh) 2 (.inl (z_ac g 0, 75, .inl wf_X9_1_7))
def wf_X9_1_8 : Nat → Int32 := upd wf_X9_1_7 44 9
def w_X9_1_s11 (g : z_G) (sh : z_H) : z_H := z_u (w_X9_1_s10 g sh) 2 (.inl (z_ac g 0, 75, .inl wf_X9_1_8))
def wf_X9_1_9 : Nat → Int32 := upd wf_X9_1_8 45 9
def w_X9_1_s12 (g : z_G) (sh : z_H) : z_H := z_u (w_X9_1_s11 g sh) 2 (.inl (z_ac g 0, 75, .inl wf_X9_1_9))
def wf_X9_1_10 : Nat → Int32 := upd wf_X9_1_9 46 9
def w_X9_1_s13 (g : z_G) (sh : z_H) : z_H := z_u (w_X9_1_s12 g sh) 2 (.inl (z_ac g 0, 75, .inl wf_X9_1_10))
def wf_X9_1_11 : Nat → Int32 := upd wf_X9_1_10 47 9
def w_X9_1_s14 (g : z_G) (sh : z_H) : z_H := z_u (w_X9_1_s13 g sh) 2 (.inl (z_ac g 0, 75, .inl wf_X9_1_11))
def wf_X9_1_12 : Nat → Int32 := upd wf_X9_1_11 48 9
def w_X9_1_s15 (g : z_G) (sh : z_H) : z_H := z_u (w_X9_1_s14 g sh) 2 (.inl (z_ac g 0, 75, .inl wf_X9_1_12))
def wf_X9_1_13 : Nat → Int32 := upd wf_X9_1_12 49 9
def w_X9_1_s16 (g : z_G) (sh : z_H) : z_H := z_u (w_X9_1_s15 g sh) 2 (.inl (z_ac g 0, 75, .inl wf_X9_1_13))
def wf_X9_1_14 : Nat → Int32 := upd wf_X9_1_13 50 9
def w_X9_1_s17 (g : z_G) (sh : z_H) : z_H := z_u (w_X9_1_s16 g sh) 2 (.inl (z_ac g 0, 75, .inl wf_X9_1_14))
def wf_X9_1_15 : Nat → Int32 := upd wf_X9_1_14 51 9
def w_X9_1_s18 (g : z_G) (sh : z_H) : z_H := z_u (w_X9_1_s17 g sh) 2 (.inl (z_ac g 0, 75, .inl wf_X9_1_15))
def wf_X9_1_16 : Nat → Int32 := upd wf_X9_1_15 52 9
def w_X9_1_s19 (g : z_G) (sh : z_H) : z_H := z_u (w_X9_1_s18 g sh) 2 (.inl (z_ac g 0, 75, .inl wf_X9_1_16))
def wf_X9_1_17 : Nat → Int32 := upd wf_X9_1_16 53 9
def w_X9_1_s20 (g : z_G) (sh : z_H) : z_H := z_u (w_X9_1_s19 g sh) 2 (.inl (z_ac g 0, 75, .inl wf_X9_1_17))
def wf_X9_1_18 : Nat → Int32 := upd wf_X9_1_17 54 9
def w_X9_1_s21 (g : z_G) (sh : z_H) : z_H := z_u (w_X9_1_s20 g sh) 2 (.inl (z_ac g 0, 75, .inl wf_X9_1_18))
def wf_X9_1_19 : Nat → Int32 := upd wf_X9_1_18 55 9
def w_X9_1_s22 (g : z_G) (sh : z_H) : z_H := z_u (w_X9_1_s21 g sh) 2 (.inl (z_ac g 0, 75, .inl wf_X9_1_19))
def wf_X9_1_20 : Nat → Int32 := upd wf_X9_1_19 56 9
def w_X9_1_s23 (g : z_G) (sh : z_H) : z_H := z_u (w_X9_1_s22 g sh) 2 (.inl (z_ac g 0, 75, .inl wf_X9_1_20))
def wf_X9_1_21 : Nat → Int32 := upd wf_X9_1_20 57 9
def w_X9_1_s24 (g : z_G) (sh : z_H) : z_H := z_u (w_X9_1_s23 g sh) 2 (.inl (z_ac g 0, 75, .inl wf_X9_1_21))
def wf_X9_1_22 : Nat → Int32 := upd wf_X9_1_21 58 9
def w_X9_1_s25 (g : z_G) (sh : z_H) : z_H := z_u (w_X9_1_s24 g sh) 2 (.inl (z_ac g 0, 75, .inl wf_X9_1_22))
def wf_X9_1_23 : Nat → Int32 := upd wf_X9_1_22 59 9
def w_X9_1_s26 (g : z_G) (sh : z_H) : z_H := z_u (w_X9_1_s25 g sh) 2 (.inl (z_ac g 0, 75, .inl wf_X9_1_23))
def wf_X9_1_24 : Nat → Int32 := upd wf_X9_1_23 60 9
def w_X9_1_s27 (g : z_G) (sh : z_H) : z_H := z_u (w_X9_1_s26 g sh) 2 (.inl (z_ac g 0, 75, .inl wf_X9_1_24))
def wf_X9_1_25 : Nat → Int32 := upd wf_X9_1_24 61 9
def w_X9_1_s28 (g : z_G) (sh : z_H) : z_H := z_u (w_X9_1_s27 g sh) 2 (.inl (z_ac g 0, 75, .inl wf_X9_1_25))
def wf_X9_1_26 : Nat → Int32 := upd wf_X9_1_25 62 9
def w_X9_1_s29 (g : z_G) (sh : z_H) : z_H := z_u (w_X9_1_s28 g sh) 2 (.inl (z_ac g 0, 75, .inl wf_X9_1_26))
def wf_X9_1_27 : Nat → Int32 := upd wf_X9_1_26 63 9
def w_X9_1_s30 (g : z_G) (sh : z_H) : z_H := z_u (w_X9_1_s29 g sh) 2 (.inl (z_ac g 0, 75, .inl wf_X9_1_27))
def wf_X9_1_28 : Nat → Int32 := upd wf_X9_1_27 64 9
def w_X9_1_s31 (g : z_G) (sh : z_H) : z_H := z_u (w_X9_1_s30 g sh) 2 (.inl (z_ac g 0, 75, .inl wf_X9_1_28))
def wf_X9_1_29 : Nat → Int32 := upd wf_X9_1_28 65 9
def w_X9_1_s32 (g : z_G) (sh : z_H) : z_H := z_u (w_X9_1_s31 g sh) 2 (.inl (z_ac g 0, 75, .inl wf_X9_1_29))
def wf_X9_1_30 : Nat → Int32 := upd wf_X9_1_29 66 9
def w_X9_1_s33 (g : z_G) (sh : z_H) : z_H := z_u (w_X9_1_s32 g sh) 2 (.inl (z_ac g 0, 75, .inl wf_X9_1_30))
def wf_X9_1_31 : Nat → Int32 := upd wf_X9_1_30 67 9
def w_X9_1_s34 (g : z_G) (sh : z_H) : z_H := z_u (w_X9_1_s33 g sh) 2 (.inl (z_ac g 0, 75, .inl wf_X9_1_31))
def wf_X9_1_32 : Nat → Int32 := upd wf_X9_1_31 68 9
def w_X9_1_s35 (g : z_G) (sh : z_H) : z_H := z_u (w_X9_1_s34 g sh) 2 (.inl (z_ac g 0, 75, .inl wf_X9_1_32))
def wf_X9_1_33 : Nat → Int32 := upd wf_X9_1_32 69 9
def w_X9_1_s36 (g : z_G) (sh : z_H) : z_H := z_u (w_X9_1_s35 g sh) 2 (.inl (z_ac g 0, 75, .inl wf_X9_1_33))
def wf_X9_1_34 : Nat → Int32 := upd wf_X9_1_33 70 9
def w_X9_1_s37 (g : z_G) (sh : z_H) : z_H := z_u (w_X9_1_s36 g sh) 2 (.inl (z_ac g 0, 75, .inl wf_X9_1_34))
def wf_X9_1_35 : Nat → Int32 := upd wf_X9_1_34 71 9
def w_X9_1_s38 (g : z_G) (sh : z_H) : z_H := z_u (w_X9_1_s37 g sh) 2 (.inl (z_ac g 0, 75, .inl wf_X9_1_35))
def wf_X9_1_36 : Nat → Int32 := upd wf_X9_1_35 72 9
def w_X9_1_s39 (g : z_G) (sh : z_H) : z_H := z_u (w_X9_1_s38 g sh) 2 (.inl (z_ac g 0, 75, .inl wf_X9_1_36))
def wf_X9_1_37 : Nat → Int32 := upd wf_X9_1_36 73 9
def w_X9_1_s40 (g : z_G) (sh : z_H) : z_H := z_u (w_X9_1_s39 g sh) 2 (.inl (z_ac g 0, 75, .inl wf_X9_1_37))
def wf_X9_1_38 : Nat → Int32 := upd wf_X9_1_37 74 9
def w_X9_1_s41 (g : z_G) (sh : z_H) : z_H := z_u (w_X9_1_s40 g sh) 2 (.inl (z_ac g 0, 75, .inl wf_X9_1_38))
def w_X9_1 (g : z_G) (sh : z_H) : z_H := w_X9_1_s41 g sh
set_option maxHeartbeats 4000000 in
set_option maxRecDepth 100000 in
theorem i_X9_1 {g : z_G} {sh : z_H} (h0 : sh 1 = .inr (9, [.null, .int 0])) : y_Ct g M_X9_init 1 1 75 2 3 [.ref (z_ad g 1)] sh (w_X9_1 g sh) :=
  y_Ct.of (by decide +kernel) rfl rfl (Nat.le_of_ble_eq_true rfl) (fun K cx ce' => by
    refine y_weak (L' := [some (.ref (z_ad g 1)), none]) (z_wk_s (z_wk_e (z_wk_0))) ?_
    refine y_aload_n cx rfl rfl dX9_init_0 ?_
    refine y_objinit cx tb_58 tb_11 tb_12 (by decide) (Nat.le_of_ble_eq_true rfl) dX9_init_1 ?_
    refine y_aload_n cx rfl rfl dX9_init_4 ?_
    refine y_bipush (v := 75) cx (by decide +kernel) dX9_init_5 ?_
    refine y_newa_int (sh1 := w_X9_1_s1 g sh) cx tb_59 rfl (by decide +kernel) (by decide +kernel) (by decide) rfl rfl rfl (by decide) (by decide) rfl dX9_init_7 ?_
    refine y_putF (i := 1) (fs := [.null, .int 0]) (fs1 := [.ref (z_ad g 2), .int 0]) (sh1 := w_X9_1_s2 g sh) cx z_cl9 (j := 0) (by decide) tb_60 rfl rfl ce'.2.2.1 rfl rfl rfl (by decide) (Eq.trans (b := sh 1) rfl h0) rfl rfl (Nat.le_of_ble_eq_true rfl) dX9_init_9 ?_
    refine y_aload_n cx rfl rfl dX9_init_12 ?_
    refine y_iconst (v := 0) cx (by decide +kernel) dX9_init_13 ?_
    refine y_putf (i := 1) (fs := [.ref (z_ad g 2), .int 0]) (fs1 := [.ref (z_ad g 2), .int 0]) (sh1 := w_X9_1_s3 g sh) cx z_cl9 (j := 1) (by decide) tb_61 rfl rfl rfl rfl (by decide) rfl rfl rfl (Nat.le_of_ble_eq_true rfl) dX9_init_14 ?_
    refine y_aload_n cx rfl rfl dX9_init_17 ?_
    refine y_getf (i := 1) (fs := [.ref (z_ad g 2), .int 0]) (v := .ref (z_ad g 2)) cx z_cl9 (j := 0) (by decide) tb_60 rfl (by decide) rfl rfl dX9_init_18 ?_
    refine y_bipush (v := 36) cx (by decide +kernel) dX9_init_21 ?_
    refine y_iconst (v := 1) cx (by decide +kernel) dX9_init_23 ?_
    refine y_iast (q := 2) (n := 75) (m := 36) (f := (fun _ => 0)) (f1 := wf_X9_1_1) (sh1 := w_X9_1_s4 g sh) cx (by decide) rfl (vp_in_lit (by decide +kernel)) (by decide +kernel) rfl rfl dX9_init_24 ?_
    refine y_aload_n cx rfl rfl dX9_init_25 ?_
    refine y_getf (i := 1) (fs := [.ref (z_ad g 2), .int 0]) (v := .ref (z_ad g 2)) cx z_cl9 (j := 0) (by decide) tb_60 rfl (by decide) rfl rfl dX9_init_26 ?_
    refine y_bipush (v := 38) cx (by decide +kernel) dX9_init_29 ?_
    refine y_iconst (v := 5) cx (by decide +kernel) dX9_init_31 ?_
    refine y_iast (q := 2) (n := 75) (m := 38) (f := wf_X9_1_1) (f1 := wf_X9_1_2) (sh1 := w_X9_1_s5 g sh) cx (by decide) rfl (vp_in_lit (by decide +kernel)) (by decide +kernel) rfl rfl dX9_init_32 ?_
    refine y_bipush (v := 39) cx (by decide +kernel) dX9_init_33 ?_
    refine y_istore_n (L' := [some (.ref (z_ad g 1)), some (.int 39)]) cx rfl (by decide) rfl dX9_init_35 ?_
    refine y_iload_n cx rfl rfl dX9_init_36 ?_
    refine y_bipush (v := 75) cx (by decide +kernel) dX9_init_37 ?_
    refine y_ge_f (tgt := 56) cx (by decide +kernel) (by decide) dX9_init_39 ?_
    refine y_aload_n cx rfl rfl dX9_init_42 ?_
    refine y_getf (i := 1) (fs := [.ref (z_ad g 2), .int 0]) (v := .ref (z_ad g 2)) cx z_cl9 (j := 0) (by decide) tb_60 rfl (by decide) rfl rfl dX9_init_43 ?_
    refine y_iload_n cx rfl rfl dX9_init_46 ?_
    refine y_bipush (v := 9) cx (by decide +kernel) dX9_init_47 ?_
    refine y_iast (q := 2) (n := 75) (m := 39) (f := wf_X9_1_2) (f1 := wf_X9_1_3) (sh1 := w_X9_1_s6 g sh) cx (by decide) rfl (vp_in_lit (by decide +kernel)) (by decide +kernel) rfl rfl dX9_init_49 ?_
    refine y_iinc (c := 40) (L' := [some (.ref (z_ad g 1)), some (.int 40)]) cx rfl (by decide +kernel) (by decide) rfl dX9_init_50 ?_
    refine y_goto (tgt := 36) cx (by decide) dX9_init_53 ?_
    refine y_iload_n cx rfl rfl dX9_init_36 ?_
    refine y_bipush (v := 75) cx (by decide +kernel) dX9_init_37 ?_
    refine y_ge_f (tgt := 56) cx (by decide +kernel) (by decide) dX9_init_39 ?_
    refine y_aload_n cx rfl rfl dX9_init_42 ?_
    refine y_getf (i := 1) (fs := [.ref (z_ad g 2), .int 0]) (v := .ref (z_ad g 2)) cx z_cl9 (j := 0) (by decide) tb_60 rfl (by decide) rfl rfl dX9_init_43 ?_
    refine y_iload_n cx rfl rfl dX9_init_46 ?_
    refine y_bipush (v := 9) cx (by decide +kernel) dX9_init_47 ?_
    refine y_iast (q := 2) (n := 75) (m := 40) (f := wf_X9_1_3) (f1 := wf_X9_1_4) (sh1 := w_X9_1_s7 g sh) cx (by decide) rfl (vp_in_lit (by decide +kernel)) (by decide +kernel) rfl rfl dX9_init_49 ?_
    refine y_iinc (c := 41) (L' := [some (.ref (z_ad g 1)), some (.int 41)]) cx rfl (by decide +kernel) (by decide) rfl dX9_init_50 ?_
    refine y_goto (tgt := 36) cx (by decide) dX9_init_53 ?_
    refine y_iload_n cx rfl rfl dX9_init_36 ?_
    refine y_bipush (v := 75) cx (by decide +kernel) dX9_init_37 ?_
    refine y_ge_f (tgt := 56) cx (by decide +kernel) (by decide) dX9_init_39 ?_
    refine y_aload_n cx rfl rfl dX9_init_42 ?_
    refine y_getf (i := 1) (fs := [.ref (z_ad g 2), .int 0]) (v := .ref (z_ad g 2)) cx z_cl9 (j := 0) (by decide) tb_60 rfl (by decide) rfl rfl dX9_init_43 ?_
    refine y_iload_n cx rfl rfl dX9_init_46 ?_
    refine y_bipush (v := 9) cx (by decide +kernel) dX9_init_47 ?_
    refine y_iast (q := 2) (n := 75) (m := 41) (f := wf_X9_1_4) (f1 := wf_X9_1_5) (sh1 := w_X9_1_s8 g sh) cx (by decide) rfl (vp_in_lit (by decide +kernel)) (by decide +kernel) rfl rfl dX9_init_49 ?_
    refine y_iinc (c := 42) (L' := [some (.ref (z_ad g 1)), some (.int 42)]) cx rfl (by decide +kernel) (by decide) rfl dX9_init_50 ?_
    refine y_goto (tgt := 36) cx (by decide) dX9_init_53 ?_
    refine y_iload_n cx rfl rfl dX9_init_36 ?_
    refine y_bipush (v := 75) cx (by decide +kernel) dX9_init_37 ?_
    refine y_ge_f (tgt := 56) cx (by decide +kernel) (by decide) dX9_init_39 ?_
    refine y_aload_n cx rfl rfl dX9_init_42 ?_
    refine y_getf (i := 1) (fs := [.ref (z_ad g 2), .int 0]) (v := .ref (z_ad g 2)) cx z_cl9 (j := 0) (by decide) tb_60 rfl (by decide) rfl rfl dX9_init_43 ?_
    refine y_iload_n cx rfl rfl dX9_init_46 ?_
    refine y_bipush (v := 9) cx (by decide +kernel) dX9_init_47 ?_
    refine y_iast (q := 2) (n := 75) (m := 42) (f := wf_X9_1_5) (f1 := wf_X9_1_6) (sh1 := w_X9_1_s9 g sh) cx (by decide) rfl (vp_in_lit (by decide +kernel)) (by decide +kernel) rfl rfl dX9_init_49 ?_
    refine y_iinc (c := 43) (L' := [some (.ref (z_ad g 1)), some (.int 43)]) cx rfl (by decide +kernel) (by decide) rfl dX9_init_50 ?_
    refine y_goto (tgt := 36) cx (by decide) dX9_init_53 ?_
    refine y_iload_n cx rfl rfl dX9_init_36 ?_
    refine y_bipush (v := 75) cx (by decide +kernel) dX9_init_37 ?_
    refine y_ge_f (tgt := 56) cx (by decide +kernel) (by decide) dX9_init_39 ?_
    refine y_aload_n cx rfl rfl dX9_init_42 ?_
    refine y_getf (i := 1) (fs := [.ref (z_ad g 2), .int 0]) (v := .ref (z_ad g 2)) cx z_cl9 (j := 0) (by decide) tb_60 rfl (by decide) rfl rfl dX9_init_43 ?_
    refine y_iload_n cx rfl rfl dX9_init_46 ?_
    refine y_bipush (v := 9) cx (by decide +kernel) dX9_init_47 ?_
    refine y_iast (q := 2) (n := 75) (m := 43) (f := wf_X9_1_6) (f1 := wf_X9_1_7) (sh1 := w_X9_1_s10 g sh) cx (by decide) rfl (vp_in_lit (by decide +kernel)) (by decide +kernel) rfl rfl dX9_init_49 ?_
    refine y_iinc (c := 44) (L' := [some (.ref (z_ad g 1)), some (.int 44)]) cx rfl (by decide +kernel) (by decide) rfl dX9_init_50 ?_
    refine y_goto (tgt := 36) cx (by decide) dX9_init_53 ?_
    refine y_iload_n cx rfl rfl dX9_init_36 ?_
    refine y_bipush (v := 75) cx (by decide +kernel) dX9_init_37 ?_
    refine y_ge_f (tgt := 56) cx (by decide +kernel) (by decide) dX9_init_39 ?_
    refine y_aload_n cx rfl rfl dX9_init_42 ?_
    refine y_getf (i := 1) (fs := [.ref (z_ad g 2), .int 0]) (v := .ref (z_ad g 2)) cx z_cl9 (j := 0) (by decide) tb_60 rfl (by decide) rfl rfl dX9_init_43 ?_
    refine y_iload_n cx rfl rfl dX9_init_46 ?_
    refine y_bipush (v := 9) cx (by decide +kernel) dX9_init_47 ?_
    refine y_iast (q := 2) (n := 75) (m := 44) (f := wf_X9_1_7) (f1 := wf_X9_1_8) (sh1 := w_X9_1_s11 g sh) cx (by decide) rfl (vp_in_lit (by decide +kernel)) (by decide +kernel) rfl rfl dX9_init_49 ?_
    refine y_iinc (c := 45) (L' := [some (.ref (z_ad g 1)), some (.int 45)]) cx rfl (by decide +kernel) (by decide) rfl dX9_init_50 ?_
    refine y_goto (tgt := 36) cx (by decide) dX9_init_53 ?_
    refine y_iload_n cx rfl rfl dX9_init_36 ?_
    refine y_bipush (v := 75) cx (by decide +kernel) dX9_init_37 ?_
    refine y_ge_f (tgt := 56) cx (by decide +kernel) (by decide) dX9_init_39 ?_
    refine y_aload_n cx rfl rfl dX9_init_42 ?_
    refine y_getf (i := 1) (fs := [.ref (z_ad g 2), .int 0]) (v := .ref (z_ad g 2)) cx z_cl9 (j := 0) (by decide) tb_60 rfl (by decide) rfl rfl dX9_init_43 ?_
    refine y_iload_n cx rfl rfl dX9_init_46 ?_
    refine y_bipush (v := 9) cx (by decide +kernel) dX9_init_47 ?_
    refine y_iast (q := 2) (n := 75) (m := 45) (f := wf_X9_1_8) (f1 := wf_X9_1_9) (sh1 := w_X9_1_s12 g sh) cx (by decide) rfl (vp_in_lit (by decide +kernel)) (by decide +kernel) rfl rfl dX9_init_49 ?_
    refine y_iinc (c := 46) (L' := [some (.ref (z_ad g 1)), some (.int 46)]) cx rfl (by decide +kernel) (by decide) rfl dX9_init_50 ?_
    refine y_goto (tgt := 36) cx (by decide) dX9_init_53 ?_
    refine y_iload_n cx rfl rfl dX9_init_36 ?_
    refine y_bipush (v := 75) cx (by decide +kernel) dX9_init_37 ?_
    refine y_ge_f (tgt := 56) cx (by decide +kernel) (by decide) dX9_init_39 ?_
    refine y_aload_n cx rfl rfl dX9_init_42 ?_
    refine y_getf (i := 1) (fs := [.ref (z_ad g 2), .int 0]) (v := .ref (z_ad g 2)) cx z_cl9 (j := 0) (by decide) tb_60 rfl (by decide) rfl rfl dX9_init_43 ?_
    refine y_iload_n cx rfl rfl dX9_init_46 ?_
    refine y_bipush (v := 9) cx (by decide +kernel) dX9_init_47 ?_
    refine y_iast (q := 2) (n := 75) (m := 46) (f := wf_X9_1_9) (f1 := wf_X9_1_10) (sh1 := w_X9_1_s13 g sh) cx (by decide) rfl (vp_in_lit (by decide +kernel)) (by decide +kernel) rfl rfl dX9_init_49 ?_
    refine y_iinc (c := 47) (L' := [some (.ref (z_ad g 1)), some (.int 47)]) cx rfl (by decide +kernel) (by decide) rfl dX9_init_50 ?_
    refine y_goto (tgt := 36) cx (by decide) dX9_init_53 ?_
    refine y_iload_n cx rfl rfl dX9_init_36 ?_
    refine y_bipush (v := 75) cx (by decide +kernel) dX9_init_37 ?_
    refine y_ge_f (tgt := 56) cx (by decide +kernel) (by decide) dX9_init_39 ?_
    refine y_aload_n cx rfl rfl dX9_init_42 ?_
    refine y_getf (i := 1) (fs := [.ref (z_ad g 2), .int 0]) (v := .ref (z_ad g 2)) cx z_cl9 (j := 0) (by decide) tb_60 rfl (by decide) rfl rfl dX9_init_43 ?_
    refine y_iload_n cx rfl rfl dX9_init_46 ?_
    refine y_bipush (v := 9) cx (by decide +kernel) dX9_init_47 ?_
    refine y_iast (q := 2) (n := 75) (m := 47) (f := wf_X9_1_10) (f1 := wf_X9_1_11) (sh1 := w_X9_1_s14 g sh) cx (by decide) rfl (vp_in_lit (by decide +kernel)) (by decide +kernel) rfl rfl dX9_init_49 ?_
    refine y_iinc (c := 48) (L' := [some (.ref (z_ad g 1)), some (.int 48)]) cx rfl (by decide +kernel) (by decide) rfl dX9_init_50 ?_
    refine y_goto (tgt := 36) cx (by decide) dX9_init_53 ?_
    refine y_iload_n cx rfl rfl dX9_init_36 ?_
    refine y_bipush (v := 75) cx (by decide +kernel) dX9_init_37 ?_
    refine y_ge_f (tgt := 56) cx (by decide +kernel) (by decide) dX9_init_39 ?_
    refine y_aload_n cx rfl rfl dX9_init_42 ?_
    refine y_getf (i := 1) (fs := [.ref (z_ad g 2), .int 0]) (v := .ref (z_ad g 2)) cx z_cl9 (j := 0) (by decide) tb_60 rfl (by decide) rfl rfl dX9_init_43 ?_
    refine y_iload_n cx rfl rfl dX9_init_46 ?_
    refine y_bipush (v := 9) cx (by decide +kernel) dX9_init_47 ?_
    refine y_iast (q := 2) (n := 75) (m := 48) (f := wf_X9_1_11) (f1 := wf_X9_1_12) (sh1 := w_X9_1_s15 g sh) cx (by decide) rfl (vp_in_lit (by decide +kernel)) (by decide +kernel) rfl rfl dX9_init_49 ?_
    refine y_iinc (c := 49) (L' := [some (.ref (z_ad g 1)), some (.int 49)]) cx rfl (by decide +kernel) (by decide) rfl dX9_init_50 ?_
    refine y_goto (tgt := 36) cx (by decide) dX9_init_53 ?_
    refine y_iload_n cx rfl rfl dX9_init_36 ?_
    refine y_bipush (v := 75) cx (by decide +kernel) dX9_init_37 ?_
    refine y_ge_f (tgt := 56) cx (by decide +kernel) (by decide) dX9_init_39 ?_
    refine y_aload_n cx rfl rfl dX9_init_42 ?_
    refine y_getf (i := 1) (fs := [.ref (z_ad g 2), .int 0]) (v := .ref (z_ad g 2)) cx z_cl9 (j := 0) (by decide) tb_60 rfl (by decide) rfl rfl dX9_init_43 ?_
    refine y_iload_n cx rfl rfl dX9_init_46 ?_
    refine y_bipush (v := 9) cx (by decide +kernel) dX9_init_47 ?_
    refine y_iast (q := 2) (n := 75) (m := 49) (f := wf_X9_1_12) (f1 := wf_X9_1_13) (sh1 := w_X9_1_s16 g sh) cx (by decide) rfl (vp_in_lit (by decide +kernel)) (by decide +kernel) rfl rfl dX9_init_49 ?_
    refine y_iinc (c := 50) (L' := [some (.ref (z_ad g 1)), some (.int 50)]) cx rfl (by decide +kernel) (by decide) rfl dX9_init_50 ?_
    refine y_goto (tgt := 36) cx (by decide) dX9_init_53 ?_
    refine y_iload_n cx rfl rfl dX9_init_36 ?_
    refine y_bipush (v := 75) cx (by decide +kernel) dX9_init_37 ?_
    refine y_ge_f (tgt := 56) cx (by decide +kernel) (by decide) dX9_init_39 ?_
    refine y_aload_n cx rfl rfl dX9_init_42 ?_
    refine y_getf (i := 1) (fs := [.ref (z_ad g 2), .int 0]) (v := .ref (z_ad g 2)) cx z_cl9 (j := 0) (by decide) tb_60 rfl (by decide) rfl rfl dX9_init_43 ?_
    refine y_iload_n cx rfl rfl dX9_init_46 ?_
    refine y_bipush (v := 9) cx (by decide +kernel) dX9_init_47 ?_
    refine y_iast (q := 2) (n := 75) (m := 50) (f := wf_X9_1_13) (f1 := wf_X9_1_14) (sh1 := w_X9_1_s17 g sh) cx (by decide) rfl (vp_in_lit (by decide +kernel)) (by decide +kernel) rfl rfl dX9_init_49 ?_
    refine y_iinc (c := 51) (L' := [some (.ref (z_ad g 1)), some (.int 51)]) cx rfl (by decide +kernel) (by decide) rfl dX9_init_50 ?_
    refine y_goto (tgt := 36) cx (by decide) dX9_init_53 ?_
    refine y_iload_n cx rfl rfl dX9_init_36 ?_
    refine y_bipush (v := 75) cx (by decide +kernel) dX9_init_37 ?_
    refine y_ge_f (tgt := 56) cx (by decide +kernel) (by decide) dX9_init_39 ?_
    refine y_aload_n cx rfl rfl dX9_init_42 ?_
    refine y_getf (i := 1) (fs := [.ref (z_ad g 2), .int 0]) (v := .ref (z_ad g 2)) cx z_cl9 (j := 0) (by decide) tb_60 rfl (by decide) rfl rfl dX9_init_43 ?_
    refine y_iload_n cx rfl rfl dX9_init_46 ?_
    refine y_bipush (v := 9) cx (by decide +kernel) dX9_init_47 ?_
    refine y_iast (q := 2) (n := 75) (m := 51) (f := wf_X9_1_14) (f1 := wf_X9_1_15) (sh1 := w_X9_1_s18 g sh) cx (by decide) rfl (vp_in_lit (by decide +kernel)) (by decide +kernel) rfl rfl dX9_init_49 ?_
    refine y_iinc (c := 52) (L' := [some (.ref (z_ad g 1)), some (.int 52)]) cx rfl (by decide +kernel) (by decide) rfl dX9_init_50 ?_
    refine y_goto (tgt := 36) cx (by decide) dX9_init_53 ?_
    refine y_iload_n cx rfl rfl dX9_init_36 ?_
    refine y_bipush (v := 75) cx (by decide +kernel) dX9_init_37 ?_
    refine y_ge_f (tgt := 56) cx (by decide +kernel) (by decide) dX9_init_39 ?_
    refine y_aload_n cx rfl rfl dX9_init_42 ?_
    refine y_getf (i := 1) (fs := [.ref (z_ad g 2), .int 0]) (v := .ref (z_ad g 2)) cx z_cl9 (j := 0) (by decide) tb_60 rfl (by decide) rfl rfl dX9_init_43 ?_
    refine y_iload_n cx rfl rfl dX9_init_46 ?_
    refine y_bipush (v := 9) cx (by decide +kernel) dX9_init_47 ?_
    refine y_iast (q := 2) (n := 75) (m := 52) (f := wf_X9_1_15) (f1 := wf_X9_1_16) (sh1 := w_X9_1_s19 g sh) cx (by decide) rfl (vp_in_lit (by decide +kernel)) (by decide +kernel) rfl rfl dX9_init_49 ?_
    refine y_iinc (c := 53) (L' := [some (.ref (z_ad g 1)), some (.int 53)]) cx rfl (by decide +kernel) (by decide) rfl dX9_init_50 ?_
    refine y_goto (tgt := 36) cx (by decide) dX9_init_53 ?_
    refine y_iload_n cx rfl rfl dX9_init_36 ?_
    refine y_bipush (v := 75) cx (by decide +kernel) dX9_init_37 ?_
    refine y_ge_f (tgt := 56) cx (by decide +kernel) (by decide) dX9_init_39 ?_
    refine y_aload_n cx rfl rfl dX9_init_42 ?_
    refine y_getf (i := 1) (fs := [.ref (z_ad g 2), .int 0]) (v := .ref (z_ad g 2)) cx z_cl9 (j := 0) (by decide) tb_60 rfl (by decide) rfl rfl dX9_init_43 ?_
    refine y_iload_n cx rfl rfl dX9_init_46 ?_
    refine y_bipush (v := 9) cx (by decide +kernel) dX9_init_47 ?_
    refine y_iast (q := 2) (n := 75) (m := 53) (f := wf_X9_1_16) (f1 := wf_X9_1_17) (sh1 := w_X9_1_s20 g sh) cx (by decide) rfl (vp_in_lit (by decide +kernel)) (by decide +kernel) rfl rfl dX9_init_49 ?_
    refine y_iinc (c := 54) (L' := [some (.ref (z_ad g 1)), some (.int 54)]) cx rfl (by decide +kernel) (by decide) rfl dX9_init_50 ?_
    refine y_goto (tgt := 36) cx (by decide) dX9_init_53 ?_
    refine y_iload_n cx rfl rfl dX9_init_36 ?_
    refine y_bipush (v := 75) cx (by decide +kernel) dX9_init_37 ?_
    refine y_ge_f (tgt := 56) cx (by decide +kernel) (by decide) dX9_init_39 ?_
    refine y_aload_n cx rfl rfl dX9_init_42 ?_
    refine y_getf (i := 1) (fs := [.ref (z_ad g 2), .int 0]) (v := .ref (z_ad g 2)) cx z_cl9 (j := 0) (by decide) tb_60 rfl (by decide) rfl rfl dX9_init_43 ?_
    refine y_iload_n cx rfl rfl dX9_init_46 ?_
    refine y_bipush (v := 9) cx (by decide +kernel) dX9_init_47 ?_
    refine y_iast (q := 2) (n := 75) (m := 54) (f := wf_X9_1_17) (f1 := wf_X9_1_18) (sh1 := w_X9_1_s21 g sh) cx (by decide) rfl (vp_in_lit (by decide +kernel)) (by decide +kernel) rfl rfl dX9_init_49 ?_
    refine y_iinc (c := 55) (L' := [some (.ref (z_ad g 1)), some (.int 55)]) cx rfl (by decide +kernel) (by decide) rfl dX9_init_50 ?_
    refine y_goto (tgt := 36) cx (by decide) dX9_init_53 ?_
    refine y_iload_n cx rfl rfl dX9_init_36 ?_
    refine y_bipush (v := 75) cx (by decide +kernel) dX9_init_37 ?_
    refine y_ge_f (tgt := 56) cx (by decide +kernel) (by decide) dX9_init_39 ?_
    refine y_aload_n cx rfl rfl dX9_init_42 ?_
    refine y_getf (i := 1) (fs := [.ref (z_ad g 2), .int 0]) (v := .ref (z_ad g 2)) cx z_cl9 (j := 0) (by decide) tb_60 rfl (by decide) rfl rfl dX9_init_43 ?_
    refine y_iload_n cx rfl rfl dX9_init_46 ?_
    refine y_bipush (v := 9) cx (by decide +kernel) dX9_init_47 ?_
    refine y_iast (q := 2) (n := 75) (m := 55) (f := wf_X9_1_18) (f1 := wf_X9_1_19) (sh1 := w_X9_1_s22 g sh) cx (by decide) rfl (vp_in_lit (by decide +kernel)) (by decide +kernel) rfl rfl dX9_init_49 ?_
    refine y_iinc (c := 56) (L' := [some (.ref (z_ad g 1)), some (.int 56)]) cx rfl (by decide +kernel) (by decide) rfl dX9_init_50 ?_
    refine y_goto (tgt := 36) cx (by decide) dX9_init_53 ?_
    refine y_iload_n cx rfl rfl dX9_init_36 ?_
    refine y_bipush (v := 75) cx (by decide +kernel) dX9_init_37 ?_
    refine y_ge_f (tgt := 56) cx (by decide +kernel) (by decide) dX9_init_39 ?_
    refine y_aload_n cx rfl rfl dX9_init_42 ?_
    refine y_getf (i := 1) (fs := [.ref (z_ad g 2), .int 0]) (v := .ref (z_ad g 2)) cx z_cl9 (j := 0) (by decide) tb_60 rfl (by decide) rfl rfl dX9_init_43 ?_
    refine y_iload_n cx rfl rfl dX9_init_46 ?_
    refine y_bipush (v := 9) cx (by decide +kernel) dX9_init_47 ?_
    refine y_iast (q := 2) (n := 75) (m := 56) (f := wf_X9_1_19) (f1 := wf_X9_1_20) (sh1 := w_X9_1_s23 g sh) cx (by decide) rfl (vp_in_lit (by decide +kernel)) (by decide +kernel) rfl rfl dX9_init_49 ?_
    refine y_iinc (c := 57) (L' := [some (.ref (z_ad g 1)), some (.int 57)]) cx rfl (by decide +kernel) (by decide) rfl dX9_init_50 ?_
    refine y_goto (tgt := 36) cx (by decide) dX9_init_53 ?_
    refine y_iload_n cx rfl rfl dX9_init_36 ?_
    refine y_bipush (v := 75) cx (by decide +kernel) dX9_init_37 ?_
    refine y_ge_f (tgt := 56) cx (by decide +kernel) (by decide) dX9_init_39 ?_
    refine y_aload_n cx rfl rfl dX9_init_42 ?_
    refine y_getf (i := 1) (fs := [.ref (z_ad g 2), .int 0]) (v := .ref (z_ad g 2)) cx z_cl9 (j := 0) (by decide) tb_60 rfl (by decide) rfl rfl dX9_init_43 ?_
    refine y_iload_n cx rfl rfl dX9_init_46 ?_
    refine y_bipush (v := 9) cx (by decide +kernel) dX9_init_47 ?_
    refine y_iast (q := 2) (n := 75) (m := 57) (f := wf_X9_1_20) (f1 := wf_X9_1_21) (sh1 := w_X9_1_s24 g sh) cx (by decide) rfl (vp_in_lit (by decide +kernel)) (by decide +kernel) rfl rfl dX9_init_49 ?_
    refine y_iinc (c := 58) (L' := [some (.ref (z_ad g 1)), some (.int 58)]) cx rfl (by decide +kernel) (by decide) rfl dX9_init_50 ?_
    refine y_goto (tgt := 36) cx (by decide) dX9_init_53 ?_
    refine y_iload_n cx rfl rfl dX9_init_36 ?_
    refine y_bipush (v := 75) cx (by decide +kernel) dX9_init_37 ?_
    refine y_ge_f (tgt := 56) cx (by decide +kernel) (by decide) dX9_init_39 ?_
    refine y_aload_n cx rfl rfl dX9_init_42 ?_
    refine y_getf (i := 1) (fs := [.ref (z_ad g 2), .int 0]) (v := .ref (z_ad g 2)) cx z_cl9 (j := 0) (by decide) tb_60 rfl (by decide) rfl rfl dX9_init_43 ?_
    refine y_iload_n cx rfl rfl dX9_init_46 ?_
    refine y_bipush (v := 9) cx (by decide +kernel) dX9_init_47 ?_
    refine y_iast (q := 2) (n := 75) (m := 58) (f := wf_X9_1_21) (f1 := wf_X9_1_22) (sh1 := w_X9_1_s25 g sh) cx (by decide) rfl (vp_in_lit (by decide +kernel)) (by decide +kernel) rfl rfl dX9_init_49 ?_
    refine y_iinc (c := 59) (L' := [some (.ref (z_ad g 1)), some (.int 59)]) cx rfl (by decide +kernel) (by decide) rfl dX9_init_50 ?_
    refine y_goto (tgt := 36) cx (by decide) dX9_init_53 ?_
    refine y_iload_n cx rfl rfl dX9_init_36 ?_
    refine y_bipush (v := 75) cx (by decide +kernel) dX9_init_37 ?_
    refine y_ge_f (tgt := 56) cx (by decide +kernel) (by decide) dX9_init_39 ?_
    refine y_aload_n cx rfl rfl dX9_init_42 ?_
    refine y_getf (i := 1) (fs := [.ref (z_ad g 2), .int 0]) (v := .ref (z_ad g 2)) cx z_cl9 (j := 0) (by decide) tb_60 rfl (by decide) rfl rfl dX9_init_43 ?_
    refine y_iload_n cx rfl rfl dX9_init_46 ?_
    refine y_bipush (v := 9) cx (by decide +kernel) dX9_init_47 ?_
    refine y_iast (q := 2) (n := 75) (m := 59) (f := wf_X9_1_22) (f1 := wf_X9_1_23) (sh1 := w_X9_1_s26 g sh) cx (by decide) rfl (vp_in_lit (by decide +kernel)) (by decide +kernel) rfl rfl dX9_init_49 ?_
    refine y_iinc (c := 60) (L' := [some (.ref (z_ad g 1)), some (.int 60)]) cx rfl (by decide +kernel) (by decide) rfl dX9_init_50 ?_
    refine y_goto (tgt := 36) cx (by decide) dX9_init_53 ?_
    refine y_iload_n cx rfl rfl dX9_init_36 ?_
    refine y_bipush (v := 75) cx (by decide +kernel) dX9_init_37 ?_
    refine y_ge_f (tgt := 56) cx (by decide +kernel) (by decide) dX9_init_39 ?_
    refine y_aload_n cx rfl rfl dX9_init_42 ?_
    refine y_getf (i := 1) (fs := [.ref (z_ad g 2), .int 0]) (v := .ref (z_ad g 2)) cx z_cl9 (j := 0) (by decide) tb_60 rfl (by decide) rfl rfl dX9_init_43 ?_
    refine y_iload_n cx rfl rfl dX9_init_46 ?_
    refine y_bipush (v := 9) cx (by decide +kernel) dX9_init_47 ?_
    refine y_iast (q := 2) (n := 75) (m := 60) (f := wf_X9_1_23) (f1 := wf_X9_1_24) (sh1 := w_X9_1_s27 g sh) cx (by decide) rfl (vp_in_lit (by decide +kernel)) (by decide +kernel) rfl rfl dX9_init_49 ?_
    refine y_iinc (c := 61) (L' := [some (.ref (z_ad g 1)), some (.int 61)]) cx rfl (by decide +kernel) (by decide) rfl dX9_init_50 ?_
    refine y_goto (tgt := 36) cx (by decide) dX9_init_53 ?_
    refine y_iload_n cx rfl rfl dX9_init_36 ?_
    refine y_bipush (v := 75) cx (by decide +kernel) dX9_init_37 ?_
    refine y_ge_f (tgt := 56) cx (by decide +kernel) (by decide) dX9_init_39 ?_
    refine y_aload_n cx rfl rfl dX9_init_42 ?_
    refine y_getf (i := 1) (fs := [.ref (z_ad g 2), .int 0]) (v := .ref (z_ad g 2)) cx z_cl9 (j := 0) (by decide) tb_60 rfl (by decide) rfl rfl dX9_init_43 ?_
    refine y_iload_n cx rfl rfl dX9_init_46 ?_
    refine y_bipush (v := 9) cx (by decide +kernel) dX9_init_47 ?_
    refine y_iast (q := 2) (n := 75) (m := 61) (f := wf_X9_1_24) (f1 := wf_X9_1_25) (sh1 := w_X9_1_s28 g sh) cx (by decide) rfl (vp_in_lit (by decide +kernel)) (by decide +kernel) rfl rfl dX9_init_49 ?_
    refine y_iinc (c := 62) (L' := [some (.ref (z_ad g 1)), some (.int 62)]) cx rfl (by decide +kernel) (by decide) rfl dX9_init_50 ?_
    refine y_goto (tgt := 36) cx (by decide) dX9_init_53 ?_
    refine y_iload_n cx rfl rfl dX9_init_36 ?_
    refine y_bipush (v := 75) cx (by decide +kernel) dX9_init_37 ?_
    refine y_ge_f (tgt := 56) cx (by decide +kernel) (by decide) dX9_init_39 ?_
    refine y_aload_n cx rfl rfl dX9_init_42 ?_
    refine y_getf (i := 1) (fs := [.ref (z_ad g 2), .int 0]) (v := .ref (z_ad g 2)) cx z_cl9 (j := 0) (by decide) tb_60 rfl (by decide) rfl rfl dX9_init_43 ?_
    refine y_iload_n cx rfl rfl dX9_init_46 ?_
    refine y_bipush (v := 9) cx (by decide +kernel) dX9_init_47 ?_
    refine y_iast (q := 2) (n := 75) (m := 62) (f := wf_X9_1_25) (f1 := wf_X9_1_26) (sh1 := w_X9_1_s29 g sh) cx (by decide) rfl (vp_in_lit (by decide +kernel)) (by decide +kernel) rfl rfl dX9_init_49 ?_
    refine y_iinc (c := 63) (L' := [some (.ref (z_ad g 1)), some (.int 63)]) cx rfl (by decide +kernel) (by decide) rfl dX9_init_50 ?_
    refine y_goto (tgt := 36) cx (by decide) dX9_init_53 ?_
    refine y_iload_n cx rfl rfl dX9_init_36 ?_
    refine y_bipush (v := 75) cx (by decide +kernel) dX9_init_37 ?_
    refine y_ge_f (tgt := 56) cx (by decide +kernel) (by decide) dX9_init_39 ?_
    refine y_aload_n cx rfl rfl dX9_init_42 ?_
    refine y_getf (i := 1) (fs := [.ref (z_ad g 2), .int 0]) (v := .ref (z_ad g 2)) cx z_cl9 (j := 0) (by decide) tb_60 rfl (by decide) rfl rfl dX9_init_43 ?_
    refine y_iload_n cx rfl rfl dX9_init_46 ?_
    refine y_bipush (v := 9) cx (by decide +kernel) dX9_init_47 ?_
    refine y_iast (q := 2) (n := 75) (m := 63) (f := wf_X9_1_26) (f1 := wf_X9_1_27) (sh1 := w_X9_1_s30 g sh) cx (by decide) rfl (vp_in_lit (by decide +kernel)) (by decide +kernel) rfl rfl dX9_init_49 ?_
    refine y_iinc (c := 64) (L' := [some (.ref (z_ad g 1)), some (.int 64)]) cx rfl (by decide +kernel) (by decide) rfl dX9_init_50 ?_
    refine y_goto (tgt := 36) cx (by decide) dX9_init_53 ?_
    refine y_iload_n cx rfl rfl dX9_init_36 ?_
    refine y_bipush (v := 75) cx (by decide +kernel) dX9_init_37 ?_
    refine y_ge_f (tgt := 56) cx (by decide +kernel) (by decide) dX9_init_39 ?_
    refine y_aload_n cx rfl rfl dX9_init_42 ?_
    refine y_getf (i := 1) (fs := [.ref (z_ad g 2), .int 0]) (v := .ref (z_ad g 2)) cx z_cl9 (j := 0) (by decide) tb_60 rfl (by decide) rfl rfl dX9_init_43 ?_
    refine y_iload_n cx rfl rfl dX9_init_46 ?_
    refine y_bipush (v := 9) cx (by decide +kernel) dX9_init_47 ?_
    refine y_iast (q := 2) (n := 75) (m := 64) (f := wf_X9_1_27) (f1 := wf_X9_1_28) (sh1 := w_X9_1_s31 g sh) cx (by decide) rfl (vp_in_lit (by decide +kernel)) (by decide +kernel) rfl rfl dX9_init_49 ?_
    refine y_iinc (c := 65) (L' := [some (.ref (z_ad g 1)), some (.int 65)]) cx rfl (by decide +kernel) (by decide) rfl dX9_init_50 ?_
    refine y_goto (tgt := 36) cx (by decide) dX9_init_53 ?_
    refine y_iload_n cx rfl rfl dX9_init_36 ?_
    refine y_bipush (v := 75) cx (by decide +kernel) dX9_init_37 ?_
    refine y_ge_f (tgt := 56) cx (by decide +kernel) (by decide) dX9_init_39 ?_
    refine y_aload_n cx rfl rfl dX9_init_42 ?_
    refine y_getf (i := 1) (fs := [.ref (z_ad g 2), .int 0]) (v := .ref (z_ad g 2)) cx z_cl9 (j := 0) (by decide) tb_60 rfl (by decide) rfl rfl dX9_init_43 ?_
    refine y_iload_n cx rfl rfl dX9_init_46 ?_
    refine y_bipush (v := 9) cx (by decide +kernel) dX9_init_47 ?_
    refine y_iast (q := 2) (n := 75) (m := 65) (f := wf_X9_1_28) (f1 := wf_X9_1_29) (sh1 := w_X9_1_s32 g sh) cx (by decide) rfl (vp_in_lit (by decide +kernel)) (by decide +kernel) rfl rfl dX9_init_49 ?_
    refine y_iinc (c := 66) (L' := [some (.ref (z_ad g 1)), some (.int 66)]) cx rfl (by decide +kernel) (by decide) rfl dX9_init_50 ?_
    refine y_goto (tgt := 36) cx (by decide) dX9_init_53 ?_
    refine y_iload_n cx rfl rfl dX9_init_36 ?_
    refine y_bipush (v := 75) cx (by decide +kernel) dX9_init_37 ?_
    refine y_ge_f (tgt := 56) cx (by decide +kernel) (by decide) dX9_init_39 ?_
    refine y_aload_n cx rfl rfl dX9_init_42 ?_
    refine y_getf (i := 1) (fs := [.ref (z_ad g 2), .int 0]) (v := .ref (z_ad g 2)) cx z_cl9 (j := 0) (by decide) tb_60 rfl (by decide) rfl rfl dX9_init_43 ?_
    refine y_iload_n cx rfl rfl dX9_init_46 ?_
    refine y_bipush (v := 9) cx (by decide +kernel) dX9_init_47 ?_
    refine y_iast (q := 2) (n := 75) (m := 66) (f := wf_X9_1_29) (f1 := wf_X9_1_30) (sh1 := w_X9_1_s33 g sh) cx (by decide) rfl (vp_in_lit (by decide +kernel)) (by decide +kernel) rfl rfl dX9_init_49 ?_
    refine y_iinc (c := 67) (L' := [some (.ref (z_ad g 1)), some (.int 67)]) cx rfl (by decide +kernel) (by decide) rfl dX9_init_50 ?_
    refine y_goto (tgt := 36) cx (by decide) dX9_init_53 ?_
    refine y_iload_n cx rfl rfl dX9_init_36 ?_
    refine y_bipush (v := 75) cx (by decide +kernel) dX9_init_37 ?_
    refine y_ge_f (tgt := 56) cx (by decide +kernel) (by decide) dX9_init_39 ?_
    refine y_aload_n cx rfl rfl dX9_init_42 ?_
    refine y_getf (i := 1) (fs := [.ref (z_ad g 2), .int 0]) (v := .ref (z_ad g 2)) cx z_cl9 (j := 0) (by decide) tb_60 rfl (by decide) rfl rfl dX9_init_43 ?_
    refine y_iload_n cx rfl rfl dX9_init_46 ?_
    refine y_bipush (v := 9) cx (by decide +kernel) dX9_init_47 ?_
    refine y_iast (q := 2) (n := 75) (m := 67) (f := wf_X9_1_30) (f1 := wf_X9_1_31) (sh1 := w_X9_1_s34 g sh) cx (by decide) rfl (vp_in_lit (by decide +kernel)) (by decide +kernel) rfl rfl dX9_init_49 ?_
    refine y_iinc (c := 68) (L' := [some (.ref (z_ad g 1)), some (.int 68)]) cx rfl (by decide +kernel) (by decide) rfl dX9_init_50 ?_
    refine y_goto (tgt := 36) cx (by decide) dX9_init_53 ?_
    refine y_iload_n cx rfl rfl dX9_init_36 ?_
    refine y_bipush (v := 75) cx (by decide +kernel) dX9_init_37 ?_
    refine y_ge_f (tgt := 56) cx (by decide +kernel) (by decide) dX9_init_39 ?_
    refine y_aload_n cx rfl rfl dX9_init_42 ?_
    refine y_getf (i := 1) (fs := [.ref (z_ad g 2), .int 0]) (v := .ref (z_ad g 2)) cx z_cl9 (j := 0) (by decide) tb_60 rfl (by decide) rfl rfl dX9_init_43 ?_
    refine y_iload_n cx rfl rfl dX9_init_46 ?_
    refine y_bipush (v := 9) cx (by decide +kernel) dX9_init_47 ?_
    refine y_iast (q := 2) (n := 75) (m := 68) (f := wf_X9_1_31) (f1 := wf_X9_1_32) (sh1 := w_X9_1_s35 g sh) cx (by decide) rfl (vp_in_lit (by decide +kernel)) (by decide +kernel) rfl rfl dX9_init_49 ?_
    refine y_iinc (c := 69) (L' := [some (.ref (z_ad g 1)), some (.int 69)]) cx rfl (by decide +kernel) (by decide) rfl dX9_init_50 ?_
    refine y_goto (tgt := 36) cx (by decide) dX9_init_53 ?_
    refine y_iload_n cx rfl rfl dX9_init_36 ?_
    refine y_bipush (v := 75) cx (by decide +kernel) dX9_init_37 ?_
    refine y_ge_f (tgt := 56) cx (by decide +kernel) (by decide) dX9_init_39 ?_
    refine y_aload_n cx rfl rfl dX9_init_42 ?_
    refine y_getf (i := 1) (fs := [.ref (z_ad g 2), .int 0]) (v := .ref (z_ad g 2)) cx z_cl9 (j := 0) (by decide) tb_60 rfl (by decide) rfl rfl dX9_init_43 ?_
    refine y_iload_n cx rfl rfl dX9_init_46 ?_
    refine y_bipush (v := 9) cx (by decide +kernel) dX9_init_47 ?_
    refine y_iast (q := 2) (n := 75) (m := 69) (f := wf_X9_1_32) (f1 := wf_X9_1_33) (sh1 := w_X9_1_s36 g sh) cx (by decide) rfl (vp_in_lit (by decide +kernel)) (by decide +kernel) rfl rfl dX9_init_49 ?_
    refine y_iinc (c := 70) (L' := [some (.ref (z_ad g 1)), some (.int 70)]) cx rfl (by decide +kernel) (by decide) rfl dX9_init_50 ?_
    refine y_goto (tgt := 36) cx (by decide) dX9_init_53 ?_
    refine y_iload_n cx rfl rfl dX9_init_36 ?_
    refine y_bipush (v := 75) cx (by decide +kernel) dX9_init_37 ?_
    refine y_ge_f (tgt := 56) cx (by decide +kernel) (by decide) dX9_init_39 ?_
    refine y_aload_n cx rfl rfl dX9_init_42 ?_
    refine y_getf (i := 1) (fs := [.ref (z_ad g 2), .int 0]) (v := .ref (z_ad g 2)) cx z_cl9 (j := 0) (by decide) tb_60 rfl (by decide) rfl rfl dX9_init_43 ?_
    refine y_iload_n cx rfl rfl dX9_init_46 ?_
    refine y_bipush (v := 9) cx (by decide +kernel) dX9_init_47 ?_
    refine y_iast (q := 2) (n := 75) (m := 70) (f := wf_X9_1_33) (f1 := wf_X9_1_34) (sh1 := w_X9_1_s37 g sh) cx (by decide) rfl (vp_in_lit (by decide +kernel)) (by decide +kernel) rfl rfl dX9_init_49 ?_
    refine y_iinc (c := 71) (L' := [some (.ref (z_ad g 1)), some (.int 71)]) cx rfl (by decide +kernel) (by decide) rfl dX9_init_50 ?_
    refine y_goto (tgt := 36) cx (by decide) dX9_init_53 ?_
    refine y_iload_n cx rfl rfl dX9_init_36 ?_
    refine y_bipush (v := 75) cx (by decide +kernel) dX9_init_37 ?_
    refine y_ge_f (tgt := 56) cx (by decide +kernel) (by decide) dX9_init_39 ?_
    refine y_aload_n cx rfl rfl dX9_init_42 ?_
    refine y_getf (i := 1) (fs := [.ref (z_ad g 2), .int 0]) (v := .ref (z_ad g 2)) cx z_cl9 (j := 0) (by decide) tb_60 rfl (by decide) rfl rfl dX9_init_43 ?_
    refine y_iload_n cx rfl rfl dX9_init_46 ?_
    refine y_bipush (v := 9) cx (by decide +kernel) dX9_init_47 ?_
    refine y_iast (q := 2) (n := 75) (m := 71) (f := wf_X9_1_34) (f1 := wf_X9_1_35) (sh1 := w_X9_1_s38 g sh) cx (by decide) rfl (vp_in_lit (by decide +kernel)) (by decide +kernel) rfl rfl dX9_init_49 ?_
    refine y_iinc (c := 72) (L' := [some (.ref (z_ad g 1)), some (.int 72)]) cx rfl (by decide +kernel) (by decide) rfl dX9_init_50 ?_
    refine y_goto (tgt := 36) cx (by decide) dX9_init_53 ?_
    refine y_iload_n cx rfl rfl dX9_init_36 ?_
    refine y_bipush (v := 75) cx (by decide +kernel) dX9_init_37 ?_
    refine y_ge_f (tgt := 56) cx (by decide +kernel) (by decide) dX9_init_39 ?_
    refine y_aload_n cx rfl rfl dX9_init_42 ?_
    refine y_getf (i := 1) (fs := [.ref (z_ad g 2), .int 0]) (v := .ref (z_ad g 2)) cx z_cl9 (j := 0) (by decide) tb_60 rfl (by decide) rfl rfl dX9_init_43 ?_
    refine y_iload_n cx rfl rfl dX9_init_46 ?_
    refine y_bipush (v := 9) cx (by decide +kernel) dX9_init_47 ?_
    refine y_iast (q := 2) (n := 75) (m := 72) (f := wf_X9_1_35) (f1 := wf_X9_1_36) (sh1 := w_X9_1_s39 g sh) cx (by decide) rfl (vp_in_lit (by decide +kernel)) (by decide +kernel) rfl rfl dX9_init_49 ?_
    refine y_iinc (c := 73) (L' := [some (.ref (z_ad g 1)), some (.int 73)]) cx rfl (by decide +kernel) (by decide) rfl dX9_init_50 ?_
    refine y_goto (tgt := 36) cx (by decide) dX9_init_53 ?_
    refine y_iload_n cx rfl rfl dX9_init_36 ?_
    refine y_bipush (v := 75) cx (by decide +kernel) dX9_init_37 ?_
    refine y_ge_f (tgt := 56) cx (by decide +kernel) (by decide) dX9_init_39 ?_
    refine y_aload_n cx rfl rfl dX9_init_42 ?_
    refine y_getf (i := 1) (fs := [.ref (z_ad g 2), .int 0]) (v := .ref (z_ad g 2)) cx z_cl9 (j := 0) (by decide) tb_60 rfl (by decide) rfl rfl dX9_init_43 ?_
    refine y_iload_n cx rfl rfl dX9_init_46 ?_
    refine y_bipush (v := 9) cx (by decide +kernel) dX9_init_47 ?_
    refine y_iast (q := 2) (n := 75) (m := 73) (f := wf_X9_1_36) (f1 := wf_X9_1_37) (sh1 := w_X9_1_s40 g sh) cx (by decide) rfl (vp_in_lit (by decide +kernel)) (by decide +kernel) rfl rfl dX9_init_49 ?_
    refine y_iinc (c := 74) (L' := [some (.ref (z_ad g 1)), some (.int 74)]) cx rfl (by decide +kernel) (by decide) rfl dX9_init_50 ?_
    refine y_goto (tgt := 36) cx (by decide) dX9_init_53 ?_
    refine y_iload_n cx rfl rfl dX9_init_36 ?_
    refine y_bipush (v := 75) cx (by decide +kernel) dX9_init_37 ?_
    refine y_ge_f (tgt := 56) cx (by decide +kernel) (by decide) dX9_init_39 ?_
    refine y_aload_n cx rfl rfl dX9_init_42 ?_
    refine y_getf (i := 1) (fs := [.ref (z_ad g 2), .int 0]) (v := .ref (z_ad g 2)) cx z_cl9 (j := 0) (by decide) tb_60 rfl (by decide) rfl rfl dX9_init_43 ?_
    refine y_iload_n cx rfl rfl dX9_init_46 ?_
    refine y_bipush (v := 9) cx (by decide +kernel) dX9_init_47 ?_
    refine y_iast (q := 2) (n := 75) (m := 74) (f := wf_X9_1_37) (f1 := wf_X9_1_38) (sh1 := w_X9_1_s41 g sh) cx (by decide) rfl (vp_in_lit (by decide +kernel)) (by decide +kernel) rfl rfl dX9_init_49 ?_
    refine y_iinc (c := 75) (L' := [some (.ref (z_ad g 1)), some (.int 75)]) cx rfl (by decide +kernel) (by decide) rfl dX9_init_50 ?_
    refine y_goto (tgt := 36) cx (by decide) dX9_init_53 ?_
    refine y_iload_n cx rfl rfl dX9_init_36 ?_
    refine y_bipush (v := 75) cx (by decide +kernel) dX9_init_37 ?_
    refine y_ge_t (tgt := 56) cx (by decide +kernel) (by decide) dX9_init_39 ?_
    exact y_ret cx ce' rfl dX9_init_56)
def w_X0_3_s1 (g : z_G) (sh : z_H) : z_H := z_u (sh) 4 (.inl (z_ac g 0, 40, .inl (fun _ => 0)))
def w_X0_3_s2 (g : z_G) (sh : z_H) : z_H := z_u (w_X0_3_s1 g sh) 3 (.inr (0, [.ref (z_ad g 4), .null, .null, .int 0, .int 0]))
def w_X0_3_s3 (g : z_G) (sh : z_H) : z_H := z_u (w_X0_3_s2 g sh) 5 (.inl (z_ac g 0, 40, .inl (fun _ => 0)))
def w_X0_3_s4 (g : z_G) (sh : z_H) : z_H := z_u (w_X0_3_s3 g sh) 3 (.inr (0, [.ref (z_ad g 4), .ref (z_ad g 5), .null, .int 0, .int 0]))
def w_X0_3_s5 (g : z_G) (sh : z_H) : z_H := z_u (w_X0_3_s4 g sh) 6 (.inl (z_ac g 0, 40, .inl (fun _ => 0)))
def w_X0_3_s6 (g : z_G) (sh : z_H) : z_H := z_u (w_X0_3_s5 g sh) 3 (.inr (0, [.ref (z_ad g 4), .ref (z_ad g 5), .ref (z_ad g 6), .int 0, .int 0]))
def w_X0_3_s7 (g : z_G) (sh : z_H) : z_H := z_u (w_X0_3_s6 g sh) 3 (.inr (0, [.ref (z_ad g 4), .ref (z_ad g 5), .ref (z_ad g 6), .int 0, .int 0]))
def w_X0_3_s8 (g : z_G) (sh : z_H) : z_H := z_u (w_X0_3_s7 g sh) 3 (.inr (0, [.ref (z_ad g 4), .ref (z_ad g 5), .ref (z_ad g 6), .int 0, .int 0]))
def w_X0_3 (g : z_G) (sh : z_H) : z_H := w_X0_3_s8 g sh
set_option maxHeartbeats 4000000 in
set_option maxRecDepth 100000 in
theorem i_X0_3 {g : z_G} {sh : z_H} (h0 : sh 3 = .inr (0, [.null, .null, .null, .int 0, .int 0])) : y_Ct g M_X0_init 1 3 120 4 7 [.ref (z_ad g 3)] sh (w_X0_3 g sh) :=
  y_Ct.of (by decide +kernel) rfl rfl (Nat.le_of_ble_eq_true rfl) (fun K cx ce' => by
    refine y_weak (L' := [some (.ref (z_ad g 3))]) (z_wk_s (z_wk_0)) ?_
    refine y_aload_n cx rfl rfl dX0_init_0 ?_
    refine y_objinit cx tb_64 tb_11 tb_12 (by decide) (Nat.le_of_ble_eq_true rfl) dX0_init_1 ?_
    refine y_aload_n cx rfl rfl dX0_init_4 ?_
    refine y_bipush (v := 40) cx (by decide +kernel) dX0_init_5 ?_
    refine y_newa_int (sh1 := w_X0_3_s1 g sh) cx tb_59 rfl (by decide +kernel) (by decide +kernel) (by decide) rfl rfl rfl (by decide) (by decide) rfl dX0_init_7 ?_
    refine y_putF (i := 3) (fs := [.null, .null, .null, .int 0, .int 0]) (fs1 := [.ref (z_ad g 4), .null, .null, .int 0, .int 0]) (sh1 := w_X0_3_s2 g sh) cx z_cl0 (j := 0) (by decide) tb_65 rfl rfl ce'.2.2.1 rfl rfl rfl (by decide) (Eq.trans (b := sh 3) rfl h0) rfl rfl (Nat.le_of_ble_eq_true rfl) dX0_init_9 ?_
    refine y_aload_n cx rfl rfl dX0_init_12 ?_
    refine y_bipush (v := 40) cx (by decide +kernel) dX0_init_13 ?_
    refine y_newa_int (sh1 := w_X0_3_s3 g sh) cx tb_59 rfl (by decide +kernel) (by decide +kernel) (by decide) rfl rfl rfl (by decide) (by decide) rfl dX0_init_15 ?_
    refine y_putF (i := 3) (fs := [.ref (z_ad g 4), .null, .null, .int 0, .int 0]) (fs1 := [.ref (z_ad g 4), .ref (z_ad g 5), .null, .int 0, .int 0]) (sh1 := w_X0_3_s4 g sh) cx z_cl0 (j := 1) (by decide) tb_66 rfl rfl ce'.2.2.1 rfl rfl rfl (by decide) rfl rfl rfl (Nat.le_of_ble_eq_true rfl) dX0_init_17 ?_
    refine y_aload_n cx rfl rfl dX0_init_20 ?_
    refine y_bipush (v := 40) cx (by decide +kernel) dX0_init_21 ?_
    refine y_newa_int (sh1 := w_X0_3_s5 g sh) cx tb_59 rfl (by decide +kernel) (by decide +kernel) (by decide) rfl rfl rfl (by decide) (by decide) rfl dX0_init_23 ?_
    refine y_putF (i := 3) (fs := [.ref (z_ad g 4), .ref (z_ad g 5), .null, .int 0, .int 0]) (fs1 := [.ref (z_ad g 4), .ref (z_ad g 5), .ref (z_ad g 6), .int 0, .int 0]) (sh1 := w_X0_3_s6 g sh) cx z_cl0 (j := 2) (by decide) tb_67 rfl rfl ce'.2.2.1 rfl rfl rfl (by decide) rfl rfl rfl (Nat.le_of_ble_eq_true rfl) dX0_init_25 ?_
    refine y_aload_n cx rfl rfl dX0_init_28 ?_
    refine y_iconst (v := 0) cx (by decide +kernel) dX0_init_29 ?_
    refine y_putf (i := 3) (fs := [.ref (z_ad g 4), .ref (z_ad g 5), .ref (z_ad g 6), .int 0, .int 0]) (fs1 := [.ref (z_ad g 4), .ref (z_ad g 5), .ref (z_ad g 6), .int 0, .int 0]) (sh1 := w_X0_3_s7 g sh) cx z_cl0 (j := 3) (by decide) tb_68 rfl rfl rfl rfl (by decide) rfl rfl rfl (Nat.le_of_ble_eq_true rfl) dX0_init_30 ?_
    refine y_aload_n cx rfl rfl dX0_init_33 ?_
    refine y_iconst (v := 0) cx (by decide +kernel) dX0_init_34 ?_
    refine y_putf (i := 3) (fs := [.ref (z_ad g 4), .ref (z_ad g 5), .ref (z_ad g 6), .int 0, .int 0]) (fs1 := [.ref (z_ad g 4), .ref (z_ad g 5), .ref (z_ad g 6), .int 0, .int 0]) (sh1 := w_X0_3_s8 g sh) cx z_cl0 (j := 4) (by decide) tb_69 rfl rfl rfl rfl (by decide) rfl rfl rfl (Nat.le_of_ble_eq_true rfl) dX0_init_35 ?_
    exact y_ret cx ce' rfl dX0_init_38)
def w_X1_7_s1 (g : z_G) (sh : z_H) : z_H := z_u (sh) 8 (.inl (z_ac g 0, 6, .inl (fun _ => 0)))
def w_X1_7_s2 (g : z_G) (sh : z_H) : z_H := z_u (w_X1_7_s1 g sh) 7 (.inr (1, [.ref (z_ad g 8), .int 0, .int 0, .int 0, .null, .int 0, .int 0]))
def w_X1_7_s3 (g : z_G) (sh : z_H) : z_H := z_u (w_X1_7_s2 g sh) 7 (.inr (1, [.ref (z_ad g 8), .int 0, .int 0, .int 0, .null, .int 0, .int 0]))
def w_X1_7_s4 (g : z_G) (sh : z_H) : z_H := z_u (w_X1_7_s3 g sh) 7 (.inr (1, [.ref (z_ad g 8), .int 0, .int 0, .int 0, .null, .int 0, .int 0]))
def w_X1_7_s5 (g : z_G) (sh : z_H) : z_H := z_u (w_X1_7_s4 g sh) 7 (.inr (1, [.ref (z_ad g 8), .int 0, .int 0, .int 0, .null, .int 0, .int 0]))
def w_X1_7_s6 (g : z_G) (sh : z_H) : z_H := z_u (w_X1_7_s5 g sh) 9 (.inl (z_ac g 0, 5, .inl (fun _ => 0)))
def w_X1_7_s7 (g : z_G) (sh : z_H) : z_H := z_u (w_X1_7_s6 g sh) 7 (.inr (1, [.ref (z_ad g 8), .int 0, .int 0, .int 0, .ref (z_ad g 9), .int 0, .int 0]))
def w_X1_7_s8 (g : z_G) (sh : z_H) : z_H := z_u (w_X1_7_s7 g sh) 7 (.inr (1, [.ref (z_ad g 8), .int 0, .int 0, .int 0, .ref (z_ad g 9), .int (-1), .int 0]))
def w_X1_7_s9 (g : z_G) (sh : z_H) : z_H := z_u (w_X1_7_s8 g sh) 7 (.inr (1, [.ref (z_ad g 8), .int 0, .int 0, .int 0, .ref (z_ad g 9), .int (-1), .int 0]))
def w_X1_7 (g : z_G) (sh : z_H) : z_H := w_X1_7_s9 g sh
set_option maxHeartbeats 4000000 in
set_option maxRecDepth 100000 in
theorem i_X1_7 {g : z_G} {sh : z_H} (h0 : sh 7 = .inr (1, [.null, .int 0, .int 0, .int 0, .null, .int 0, .int 0])) : y_Ct g M_X1_init 1 2 11 8 10 [.ref (z_ad g 7)] sh (w_X1_7 g sh) :=
  y_Ct.of (by decide +kernel) rfl rfl (Nat.le_of_ble_eq_true rfl) (fun K cx ce' => by
    refine y_weak (L' := [some (.ref (z_ad g 7))]) (z_wk_s (z_wk_0)) ?_
    refine y_aload_n cx rfl rfl dX1_init_0 ?_
    refine y_objinit cx tb_72 tb_11 tb_12 (by decide) (Nat.le_of_ble_eq_true rfl) dX1_init_1 ?_
    refine y_aload_n cx rfl rfl dX1_init_4 ?_
    refine y_bipush (v := 6) cx (by decide +kernel) dX1_init_5 ?_
    refine y_newa_int (sh1 := w_X1_7_s1 g sh) cx tb_59 rfl (by decide +kernel) (by decide +kernel) (by decide) rfl rfl rfl (by decide) (by decide) rfl dX1_init_7 ?_
    refine y_putF (i := 7) (fs := [.null, .int 0, .int 0, .int 0, .null, .int 0, .int 0]) (fs1 := [.ref (z_ad g 8), .int 0, .int 0, .int 0, .null, .int 0, .int 0]) (sh1 := w_X1_7_s2 g sh) cx z_cl1 (j := 0) (by decide) tb_73 rfl rfl ce'.2.2.1 rfl rfl rfl (by decide) (Eq.trans (b := sh 7) rfl h0) rfl rfl (Nat.le_of_ble_eq_true rfl) dX1_init_9 ?_
    refine y_aload_n cx rfl rfl dX1_init_12 ?_
    refine y_iconst (v := 0) cx (by decide +kernel) dX1_init_13 ?_
    refine y_putf (i := 7) (fs := [.ref (z_ad g 8), .int 0, .int 0, .int 0, .null, .int 0, .int 0]) (fs1 := [.ref (z_ad g 8), .int 0, .int 0, .int 0, .null, .int 0, .int 0]) (sh1 := w_X1_7_s3 g sh) cx z_cl1 (j := 1) (by decide) tb_74 rfl rfl rfl rfl (by decide) rfl rfl rfl (Nat.le_of_ble_eq_true rfl) dX1_init_14 ?_
    refine y_aload_n cx rfl rfl dX1_init_17 ?_
    refine y_iconst (v := 0) cx (by decide +kernel) dX1_init_18 ?_
    refine y_putf (i := 7) (fs := [.ref (z_ad g 8), .int 0, .int 0, .int 0, .null, .int 0, .int 0]) (fs1 := [.ref (z_ad g 8), .int 0, .int 0, .int 0, .null, .int 0, .int 0]) (sh1 := w_X1_7_s4 g sh) cx z_cl1 (j := 2) (by decide) tb_75 rfl rfl rfl rfl (by decide) rfl rfl rfl (Nat.le_of_ble_eq_true rfl) dX1_init_19 ?_
    refine y_aload_n cx rfl rfl dX1_init_22 ?_
    refine y_iconst (v := 0) cx (by decide +kernel) dX1_init_23 ?_
    refine y_putf (i := 7) (fs := [.ref (z_ad g 8), .int 0, .int 0, .int 0, .null, .int 0, .int 0]) (fs1 := [.ref (z_ad g 8), .int 0, .int 0, .int 0, .null, .int 0, .int 0]) (sh1 := w_X1_7_s5 g sh) cx z_cl1 (j := 3) (by decide) tb_76 rfl rfl rfl rfl (by decide) rfl rfl rfl (Nat.le_of_ble_eq_true rfl) dX1_init_24 ?_
    refine y_aload_n cx rfl rfl dX1_init_27 ?_
    refine y_iconst (v := 5) cx (by decide +kernel) dX1_init_28 ?_
    refine y_newa_int (sh1 := w_X1_7_s6 g sh) cx tb_59 rfl (by decide +kernel) (by decide +kernel) (by decide) rfl rfl rfl (by decide) (by decide) rfl dX1_init_29 ?_
    refine y_putF (i := 7) (fs := [.ref (z_ad g 8), .int 0, .int 0, .int 0, .null, .int 0, .int 0]) (fs1 := [.ref (z_ad g 8), .int 0, .int 0, .int 0, .ref (z_ad g 9), .int 0, .int 0]) (sh1 := w_X1_7_s7 g sh) cx z_cl1 (j := 4) (by decide) tb_77 rfl rfl ce'.2.2.1 rfl rfl rfl (by decide) rfl rfl rfl (Nat.le_of_ble_eq_true rfl) dX1_init_31 ?_
    refine y_aload_n cx rfl rfl dX1_init_34 ?_
    refine y_iconst (v := (-1)) cx (by decide +kernel) dX1_init_35 ?_
    refine y_putf (i := 7) (fs := [.ref (z_ad g 8), .int 0, .int 0, .int 0, .ref (z_ad g 9), .int 0, .int 0]) (fs1 := [.ref (z_ad g 8), .int 0, .int 0, .int 0, .ref (z_ad g 9), .int (-1), .int 0]) (sh1 := w_X1_7_s8 g sh) cx z_cl1 (j := 5) (by decide) tb_78 rfl rfl rfl rfl (by decide) rfl rfl rfl (Nat.le_of_ble_eq_true rfl) dX1_init_36 ?_
    refine y_aload_n cx rfl rfl dX1_init_39 ?_
    refine y_iconst (v := 0) cx (by decide +kernel) dX1_init_40 ?_
    refine y_putf (i := 7) (fs := [.ref (z_ad g 8), .int 0, .int 0, .int 0, .ref (z_ad g 9), .int (-1), .int 0]) (fs1 := [.ref (z_ad g 8), .int 0, .int 0, .int 0, .ref (z_ad g 9), .int (-1), .int 0]) (sh1 := w_X1_7_s9 g sh) cx z_cl1 (j := 6) (by decide) tb_79 rfl rfl rfl rfl (by decide) rfl rfl rfl (Nat.le_of_ble_eq_true rfl) dX1_init_41 ?_
    exact y_ret cx ce' rfl dX1_init_44)
def w_X1_10_s1 (g : z_G) (sh : z_H) : z_H := z_u (sh) 11 (.inl (z_ac g 0, 6, .inl (fun _ => 0)))
def w_X1_10_s2 (g : z_G) (sh : z_H) : z_H := z_u (w_X1_10_s1 g sh) 10 (.inr (1, [.ref (z_ad g 11), .int 0, .int 0, .int 0, .null, .int 0, .int 0]))
def w_X1_10_s3 (g : z_G) (sh : z_H) : z_H := z_u (w_X1_10_s2 g sh) 10 (.inr (1, [.ref (z_ad g 11), .int 0, .int 0, .int 0, .null, .int 0, .int 0]))
def w_X1_10_s4 (g : z_G) (sh : z_H) : z_H := z_u (w_X1_10_s3 g sh) 10 (.inr (1, [.ref (z_ad g 11), .int 0, .int 0, .int 0, .null, .int 0, .int 0]))
def w_X1_10_s5 (g : z_G) (sh : z_H) : z_H := z_u (w_X1_10_s4 g sh) 10 (.inr (1, [.ref (z_ad g 11), .int 0, .int 0, .int 0, .null, .int 0, .int 0]))
def w_X1_10_s6 (g : z_G) (sh : z_H) : z_H := z_u (w_X1_10_s5 g sh) 12 (.inl (z_ac g 0, 5, .inl (fun _ => 0)))
def w_X1_10_s7 (g : z_G) (sh : z_H) : z_H := z_u (w_X1_10_s6 g sh) 10 (.inr (1, [.ref (z_ad g 11), .int 0, .int 0, .int 0, .ref (z_ad g 12), .int 0, .int 0]))
def w_X1_10_s8 (g : z_G) (sh : z_H) : z_H := z_u (w_X1_10_s7 g sh) 10 (.inr (1, [.ref (z_ad g 11), .int 0, .int 0, .int 0, .ref (z_ad g 12), .int (-1), .int 0]))
def w_X1_10_s9 (g : z_G) (sh : z_H) : z_H := z_u (w_X1_10_s8 g sh) 10 (.inr (1, [.ref (z_ad g 11), .int 0, .int 0, .int 0, .ref (z_ad g 12), .int (-1), .int 0]))
def w_X1_10 (g : z_G) (sh : z_H) : z_H := w_X1_10_s9 g sh
set_option maxHeartbeats 4000000 in
set_option maxRecDepth 100000 in
theorem i_X1_10 {g : z_G} {sh : z_H} (h0 : sh 10 = .inr (1, [.null, .int 0, .int 0, .int 0, .null, .int 0, .int 0])) : y_Ct g M_X1_init 1 2 11 11 13 [.ref (z_ad g 10)] sh (w_X1_10 g sh) :=
  y_Ct.of (by decide +kernel) rfl rfl (Nat.le_of_ble_eq_true rfl) (fun K cx ce' => by
    refine y_weak (L' := [some (.ref (z_ad g 10))]) (z_wk_s (z_wk_0)) ?_
    refine y_aload_n cx rfl rfl dX1_init_0 ?_
    refine y_objinit cx tb_72 tb_11 tb_12 (by decide) (Nat.le_of_ble_eq_true rfl) dX1_init_1 ?_
    refine y_aload_n cx rfl rfl dX1_init_4 ?_
    refine y_bipush (v := 6) cx (by decide +kernel) dX1_init_5 ?_
    refine y_newa_int (sh1 := w_X1_10_s1 g sh) cx tb_59 rfl (by decide +kernel) (by decide +kernel) (by decide) rfl rfl rfl (by decide) (by decide) rfl dX1_init_7 ?_
    refine y_putF (i := 10) (fs := [.null, .int 0, .int 0, .int 0, .null, .int 0, .int 0]) (fs1 := [.ref (z_ad g 11), .int 0, .int 0, .int 0, .null, .int 0, .int 0]) (sh1 := w_X1_10_s2 g sh) cx z_cl1 (j := 0) (by decide) tb_73 rfl rfl ce'.2.2.1 rfl rfl rfl (by decide) (Eq.trans (b := sh 10) rfl h0) rfl rfl (Nat.le_of_ble_eq_true rfl) dX1_init_9 ?_
    refine y_aload_n cx rfl rfl dX1_init_12 ?_
    refine y_iconst (v := 0) cx (by decide +kernel) dX1_init_13 ?_
    refine y_putf (i := 10) (fs := [.ref (z_ad g 11), .int 0, .int 0, .int 0, .null, .int 0, .int 0]) (fs1 := [.ref (z_ad g 11), .int 0, .int 0, .int 0, .null, .int 0, .int 0]) (sh1 := w_X1_10_s3 g sh) cx z_cl1 (j := 1) (by decide) tb_74 rfl rfl rfl rfl (by decide) rfl rfl rfl (Nat.le_of_ble_eq_true rfl) dX1_init_14 ?_
    refine y_aload_n cx rfl rfl dX1_init_17 ?_
    refine y_iconst (v := 0) cx (by decide +kernel) dX1_init_18 ?_
    refine y_putf (i := 10) (fs := [.ref (z_ad g 11), .int 0, .int 0, .int 0, .null, .int 0, .int 0]) (fs1 := [.ref (z_ad g 11), .int 0, .int 0, .int 0, .null, .int 0, .int 0]) (sh1 := w_X1_10_s4 g sh) cx z_cl1 (j := 2) (by decide) tb_75 rfl rfl rfl rfl (by decide) rfl rfl rfl (Nat.le_of_ble_eq_true rfl) dX1_init_19 ?_
    refine y_aload_n cx rfl rfl dX1_init_22 ?_
    refine y_iconst (v := 0) cx (by decide +kernel) dX1_init_23 ?_
    refine y_putf (i := 10) (fs := [.ref (z_ad g 11), .int 0, .int 0, .int 0, .null, .int 0, .int 0]) (fs1 := [.ref (z_ad g 11), .int 0, .int 0, .int 0, .null, .int 0, .int 0]) (sh1 := w_X1_10_s5 g sh) cx z_cl1 (j := 3) (by decide) tb_76 rfl rfl rfl rfl (by decide) rfl rfl rfl (Nat.le_of_ble_eq_true rfl) dX1_init_24 ?_
    refine y_aload_n cx rfl rfl dX1_init_27 ?_
    refine y_iconst (v := 5) cx (by decide +kernel) dX1_init_28 ?_
    refine y_newa_int (sh1 := w_X1_10_s6 g sh) cx tb_59 rfl (by decide +kernel) (by decide +kernel) (by decide) rfl rfl rfl (by decide) (by decide) rfl dX1_init_29 ?_
    refine y_putF (i := 10) (fs := [.ref (z_ad g 11), .int 0, .int 0, .int 0, .null, .int 0, .int 0]) (fs1 := [.ref (z_ad g 11), .int 0, .int 0, .int 0, .ref (z_ad g 12), .int 0, .int 0]) (sh1 := w_X1_10_s7 g sh) cx z_cl1 (j := 4) (by decide) tb_77 rfl rfl ce'.2.2.1 rfl rfl rfl (by decide) rfl rfl rfl (Nat.le_of_ble_eq_true rfl) dX1_init_31 ?_
    refine y_aload_n cx rfl rfl dX1_init_34 ?_
    refine y_iconst (v := (-1)) cx (by decide +kernel) dX1_init_35 ?_
    refine y_putf (i := 10) (fs := [.ref (z_ad g 11), .int 0, .int 0, .int 0, .ref (z_ad g 12), .int 0, .int 0]) (fs1 := [.ref (z_ad g 11), .int 0, .int 0, .int 0, .ref (z_ad g 12), .int (-1), .int 0]) (sh1 := w_X1_10_s8 g sh) cx z_cl1 (j := 5) (by decide) tb_78 rfl rfl rfl rfl (by decide) rfl rfl rfl (Nat.le_of_ble_eq_true rfl) dX1_init_36 ?_
    refine y_aload_n cx rfl rfl dX1_init_39 ?_
    refine y_iconst (v := 0) cx (by decide +kernel) dX1_init_40 ?_
    refine y_putf (i := 10) (fs := [.ref (z_ad g 11), .int 0, .int 0, .int 0, .ref (z_ad g 12), .int (-1), .int 0]) (fs1 := [.ref (z_ad g 11), .int 0, .int 0, .int 0, .ref (z_ad g 12), .int (-1), .int 0]) (sh1 := w_X1_10_s9 g sh) cx z_cl1 (j := 6) (by decide) tb_79 rfl rfl rfl rfl (by decide) rfl rfl rfl (Nat.le_of_ble_eq_true rfl) dX1_init_41 ?_
    exact y_ret cx ce' rfl dX1_init_44)
def w_X6_13_s1 (g : z_G) (sh : z_H) : z_H := z_u (sh) 14 (.inl (z_ac g 0, 120, .inl (fun _ => 0)))
def w_X6_13_s2 (g : z_G) (sh : z_H) : z_H := z_u (w_X6_13_s1 g sh) 13 (.inr (6, [.ref (z_ad g 14), .int 0, .null, .int 0, .null, .int 0, .int 0]))
def w_X6_13_s3 (g : z_G) (sh : z_H) : z_H := z_u (w_X6_13_s2 g sh) 13 (.inr (6, [.ref (z_ad g 14), .int 0, .null, .int 0, .null, .int 0, .int 0]))
def w_X6_13_s4 (g : z_G) (sh : z_H) : z_H := z_u (w_X6_13_s3 g sh) 15 (.inl (z_ac g 0, 120, .inl (fun _ => 0)))
def w_X6_13_s5 (g : z_G) (sh : z_H) : z_H := z_u (w_X6_13_s4 g sh) 13 (.inr (6, [.ref (z_ad g 14), .int 0, .ref (z_ad g 15), .int 0, .null, .int 0, .int 0]))
def w_X6_13_s6 (g : z_G) (sh : z_H) : z_H := z_u (w_X6_13_s5 g sh) 13 (.inr (6, [.ref (z_ad g 14), .int 0, .ref (z_ad g 15), .int 0, .null, .int 0, .int 0]))
def w_X6_13_s7 (g : z_G) (sh : z_H) : z_H := z_u (w_X6_13_s6 g sh) 16 (.inl (z_ac g 0, 6, .inl (fun _ => 0)))
def w_X6_13_s8 (g : z_G) (sh : z_H) : z_H := z_u (w_X6_13_s7 g sh) 13 (.inr (6, [.ref (z_ad g 14), .int 0, .ref (z_ad g 15), .int 0, .ref (z_ad g 16), .int 0, .int 0]))
def w_X6_13_s9 (g : z_G) (sh : z_H) : z_H := z_u (w_X6_13_s8 g sh) 13 (.inr (6, [.ref (z_ad g 14), .int 0, .ref (z_ad g 15), .int 0, .ref (z_ad g 16), .int 0, .int 0]))
def w_X6_13_s10 (g : z_G) (sh : z_H) : z_H := z_u (w_X6_13_s9 g sh) 13 (.inr (6, [.ref (z_ad g 14), .int 0, .ref (z_ad g 15), .int 0, .ref (z_ad g 16), .int 0, .int (-1)]))
def w_X6_13 (g : z_G) (sh : z_H) : z_H := w_X6_13_s10 g sh
set_option maxHeartbeats 4000000 in
set_option maxRecDepth 100000 in
theorem i_X6_13 {g : z_G} {sh : z_H} (h0 : sh 13 = .inr (6, [.null, .int 0, .null, .int 0, .null, .int 0, .int 0])) : y_Ct g M_X6_init 1 3 246 14 17 [.ref (z_ad g 13)] sh (w_X6_13 g sh) :=
  y_Ct.of (by decide +kernel) rfl rfl (Nat.le_of_ble_eq_true rfl) (fun K cx ce' => by
    refine y_weak (L' := [some (.ref (z_ad g 13))]) (z_wk_s (z_wk_0)) ?_
    refine y_aload_n cx rfl rfl dX6_init_0 ?_
    refine y_objinit cx tb_82 tb_11 tb_12 (by decide) (Nat.le_of_ble_eq_true rfl) dX6_init_1 ?_
    refine y_aload_n cx rfl rfl dX6_init_4 ?_
    refine y_bipush (v := 120) cx (by decide +kernel) dX6_init_5 ?_
    refine y_newa_int (sh1 := w_X6_13_s1 g sh) cx tb_59 rfl (by decide +kernel) (by decide +kernel) (by decide) rfl rfl rfl (by decide) (by decide) rfl dX6_init_7 ?_
    refine y_putf (i := 13) (fs := [.null, .int 0, .null, .int 0, .null, .int 0, .int 0]) (fs1 := [.ref (z_ad g 14), .int 0, .null, .int 0, .null, .int 0, .int 0]) (sh1 := w_X6_13_s2 g sh) cx z_cl6 (j := 0) (by decide) tb_83 rfl rfl rfl rfl (by decide) (Eq.trans (b := sh 13) rfl h0) rfl rfl (Nat.le_of_ble_eq_true rfl) dX6_init_9 ?_
    refine y_aload_n cx rfl rfl dX6_init_12 ?_
    refine y_iconst (v := 0) cx (by decide +kernel) dX6_init_13 ?_
    refine y_putf (i := 13) (fs := [.ref (z_ad g 14), .int 0, .null, .int 0, .null, .int 0, .int 0]) (fs1 := [.ref (z_ad g 14), .int 0, .null, .int 0, .null, .int 0, .int 0]) (sh1 := w_X6_13_s3 g sh) cx z_cl6 (j := 1) (by decide) tb_84 rfl rfl rfl rfl (by decide) rfl rfl rfl (Nat.le_of_ble_eq_true rfl) dX6_init_14 ?_
    refine y_aload_n cx rfl rfl dX6_init_17 ?_
    refine y_bipush (v := 120) cx (by decide +kernel) dX6_init_18 ?_
    refine y_newa_int (sh1 := w_X6_13_s4 g sh) cx tb_59 rfl (by decide +kernel) (by decide +kernel) (by decide) rfl rfl rfl (by decide) (by decide) rfl dX6_init_20 ?_
    refine y_putf (i := 13) (fs := [.ref (z_ad g 14), .int 0, .null, .int 0, .null, .int 0, .int 0]) (fs1 := [.ref (z_ad g 14), .int 0, .ref (z_ad g 15), .int 0, .null, .int 0, .int 0]) (sh1 := w_X6_13_s5 g sh) cx z_cl6 (j := 2) (by decide) tb_85 rfl rfl rfl rfl (by decide) rfl rfl rfl (Nat.le_of_ble_eq_true rfl) dX6_init_22 ?_
    refine y_aload_n cx rfl rfl dX6_init_25 ?_
    refine y_iconst (v := 0) cx (by decide +kernel) dX6_init_26 ?_
    refine y_putf (i := 13) (fs := [.ref (z_ad g 14), .int 0, .ref (z_ad g 15), .int 0, .null, .int 0, .int 0]) (fs1 := [.ref (z_ad g 14), .int 0, .ref (z_ad g 15), .int 0, .null, .int 0, .int 0]) (sh1 := w_X6_13_s6 g sh) cx z_cl6 (j := 3) (by decide) tb_86 rfl rfl rfl rfl (by decide) rfl rfl rfl (Nat.le_of_ble_eq_true rfl) dX6_init_27 ?_
    refine y_aload_n cx rfl rfl dX6_init_30 ?_
    refine y_bipush (v := 6) cx (by decide +kernel) dX6_init_31 ?_
    refine y_newa_int (sh1 := w_X6_13_s7 g sh) cx tb_59 rfl (by decide +kernel) (by decide +kernel) (by decide) rfl rfl rfl (by decide) (by decide) rfl dX6_init_33 ?_
    refine y_putF (i := 13) (fs := [.ref (z_ad g 14), .int 0, .ref (z_ad g 15), .int 0, .null, .int 0, .int 0]) (fs1 := [.ref (z_ad g 14), .int 0, .ref (z_ad g 15), .int 0, .ref (z_ad g 16), .int 0, .int 0]) (sh1 := w_X6_13_s8 g sh) cx z_cl6 (j := 4) (by decide) tb_87 rfl rfl ce'.2.2.1 rfl rfl rfl (by decide) rfl rfl rfl (Nat.le_of_ble_eq_true rfl) dX6_init_35 ?_
    refine y_aload_n cx rfl rfl dX6_init_38 ?_
    refine y_iconst (v := 0) cx (by decide +kernel) dX6_init_39 ?_
    refine y_putf (i := 13) (fs := [.ref (z_ad g 14), .int 0, .ref (z_ad g 15), .int 0, .ref (z_ad g 16), .int 0, .int 0]) (fs1 := [.ref (z_ad g 14), .int 0, .ref (z_ad g 15), .int 0, .ref (z_ad g 16), .int 0, .int 0]) (sh1 := w_X6_13_s9 g sh) cx z_cl6 (j := 5) (by decide) tb_88 rfl rfl rfl rfl (by decide) rfl rfl rfl (Nat.le_of_ble_eq_true rfl) dX6_init_40 ?_
    refine y_aload_n cx rfl rfl dX6_init_43 ?_
    refine y_iconst (v := (-1)) cx (by decide +kernel) dX6_init_44 ?_
    refine y_putf (i := 13) (fs := [.ref (z_ad g 14), .int 0, .ref (z_ad g 15), .int 0, .ref (z_ad g 16), .int 0, .int 0]) (fs1 := [.ref (z_ad g 14), .int 0, .ref (z_ad g 15), .int 0, .ref (z_ad g 16), .int 0, .int (-1)]) (sh1 := w_X6_13_s10 g sh) cx z_cl6 (j := 6) (by decide) tb_89 rfl rfl rfl rfl (by decide) rfl rfl rfl (Nat.le_of_ble_eq_true rfl) dX6_init_45 ?_
    exact y_ret cx ce' rfl dX6_init_48)
def w_X4_17_s1 (g : z_G) (sh : z_H) : z_H := z_u (sh) 17 (.inr (4, [.long 0, .long 0]))
def w_X4_17_s2 (g : z_G) (sh : z_H) : z_H := z_u (w_X4_17_s1 g sh) 17 (.inr (4, [.long 0, .long 1]))
def w_X4_17 (g : z_G) (sh : z_H) : z_H := w_X4_17_s2 g sh
set_option maxHeartbeats 4000000 in
set_option maxRecDepth 100000 in
theorem i_X4_17 {g : z_G} {sh : z_H} (h0 : sh 17 = .inr (4, [.long 0, .long 0])) : y_Ct g M_X4_init 1 0 0 18 18 [.ref (z_ad g 17)] sh (w_X4_17 g sh) :=
  y_Ct.of (by decide +kernel) rfl rfl (Nat.le_of_ble_eq_true rfl) (fun K cx ce' => by
    refine y_weak (L' := [some (.ref (z_ad g 17))]) (z_wk_s (z_wk_0)) ?_
    refine y_aload_n cx rfl rfl dX4_init_0 ?_
    refine y_objinit cx tb_92 tb_11 tb_12 (by decide) (Nat.le_of_ble_eq_true rfl) dX4_init_1 ?_
    refine y_aload_n cx rfl rfl dX4_init_4 ?_
    refine y_lconst (v := 0) cx (by decide +kernel) dX4_init_5 ?_
    refine y_putf (i := 17) (fs := [.long 0, .long 0]) (fs1 := [.long 0, .long 0]) (sh1 := w_X4_17_s1 g sh) cx z_cl4 (j := 0) (by decide) tb_93 rfl rfl rfl rfl (by decide) (Eq.trans (b := sh 17) rfl h0) rfl rfl (Nat.le_of_ble_eq_true rfl) dX4_init_6 ?_
    refine y_aload_n cx rfl rfl dX4_init_9 ?_
    refine y_lconst (v := 1) cx (by decide +kernel) dX4_init_10 ?_
    refine y_putf (i := 17) (fs := [.long 0, .long 0]) (fs1 := [.long 0, .long 1]) (sh1 := w_X4_17_s2 g sh) cx z_cl4 (j := 1) (by decide) tb_94 rfl rfl rfl rfl (by decide) rfl rfl rfl (Nat.le_of_ble_eq_true rfl) dX4_init_11 ?_
    exact y_ret cx ce' rfl dX4_init_14)
def w_X4_22_s1 (g : z_G) (sh : z_H) : z_H := z_u (sh) 22 (.inr (4, [.long 0, .long 0]))
def w_X4_22_s2 (g : z_G) (sh : z_H) : z_H := z_u (w_X4_22_s1 g sh) 22 (.inr (4, [.long 0, .long 1]))
def w_X4_22 (g : z_G) (sh : z_H) : z_H := w_X4_22_s2 g sh
set_option maxHeartbeats 4000000 in
set_option maxRecDepth 100000 in
theorem i_X4_22 {g : z_G} {sh : z_H} (h0 : sh 22 = .inr (4, [.long 0, .long 0])) : y_Ct g M_X4_init 1 0 0 23 23 [.ref (z_ad g 22)] sh (w_X4_22 g sh) :=
  y_Ct.of (by decide +kernel) rfl rfl (Nat.le_of_ble_eq_true rfl) (fun K cx ce' => by
    refine y_weak (L' := [some (.ref (z_ad g 22))]) (z_wk_s (z_wk_0)) ?_
    refine y_aload_n cx rfl rfl dX4_init_0 ?_
    refine y_objinit cx tb_92 tb_11 tb_12 (by decide) (Nat.le_of_ble_eq_true rfl) dX4_init_1 ?_
    refine y_aload_n cx rfl rfl dX4_init_4 ?_
    refine y_lconst (v := 0) cx (by decide +kernel) dX4_init_5 ?_
    refine y_putf (i := 22) (fs := [.long 0, .long 0]) (fs1 := [.long 0, .long 0]) (sh1 := w_X4_22_s1 g sh) cx z_cl4 (j := 0) (by decide) tb_93 rfl rfl rfl rfl (by decide) (Eq.trans (b := sh 22) rfl h0) rfl rfl (Nat.le_of_ble_eq_true rfl) dX4_init_6 ?_
    refine y_aload_n cx rfl rfl dX4_init_9 ?_
    refine y_lconst (v := 1) cx (by decide +kernel) dX4_init_10 ?_
    refine y_putf (i := 22) (fs := [.long 0, .long 0]) (fs1 := [.long 0, .long 1]) (sh1 := w_X4_22_s2 g sh) cx z_cl4 (j := 1) (by decide) tb_94 rfl rfl rfl rfl (by decide) rfl rfl rfl (Nat.le_of_ble_eq_true rfl) dX4_init_11 ?_
    exact y_ret cx ce' rfl dX4_init_14)
def w_X4_23_s1 (g : z_G) (sh : z_H) : z_H := z_u (sh) 23 (.inr (4, [.long 0, .long 0]))
def w_X4_23_s2 (g : z_G) (sh : z_H) : z_H := z_u (w_X4_23_s1 g sh) 23 (.inr (4, [.long 0, .long 1]))
def w_X4_23 (g : z_G) (sh : z_H) : z_H := w_X4_23_s2 g sh
set_option maxHeartbeats 4000000 in
set_option maxRecDepth 100000 in
theorem i_X4_23 {g : z_G} {sh : z_H} (h0 : sh 23 = .inr (4, [.long 0, .long 0])) : y_Ct g M_X4_init 1 0 0 24 24 [.ref (z_ad g 23)] sh (w_X4_23 g sh) :=
  y_Ct.of (by decide +kernel) rfl rfl (Nat.le_of_ble_eq_true rfl) (fun K cx ce' => by
    refine y_weak (L' := [some (.ref (z_ad g 23))]) (z_wk_s (z_wk_0)) ?_
    refine y_aload_n cx rfl rfl dX4_init_0 ?_
    refine y_objinit cx tb_92 tb_11 tb_12 (by decide) (Nat.le_of_ble_eq_true rfl) dX4_init_1 ?_
    refine y_aload_n cx rfl rfl dX4_init_4 ?_
    refine y_lconst (v := 0) cx (by decide +kernel) dX4_init_5 ?_
    refine y_putf (i := 23) (fs := [.long 0, .long 0]) (fs1 := [.long 0, .long 0]) (sh1 := w_X4_23_s1 g sh) cx z_cl4 (j := 0) (by decide) tb_93 rfl rfl rfl rfl (by decide) (Eq.trans (b := sh 23) rfl h0) rfl rfl (Nat.le_of_ble_eq_true rfl) dX4_init_6 ?_
    refine y_aload_n cx rfl rfl dX4_init_9 ?_
    refine y_lconst (v := 1) cx (by decide +kernel) dX4_init_10 ?_
    refine y_putf (i := 23) (fs := [.long 0, .long 0]) (fs1 := [.long 0, .long 1]) (sh1 := w_X4_23_s2 g sh) cx z_cl4 (j := 1) (by decide) tb_94 rfl rfl rfl rfl (by decide) rfl rfl rfl (Nat.le_of_ble_eq_true rfl) dX4_init_11 ?_
    exact y_ret cx ce' rfl dX4_init_14)
def w_X4_24_s1 (g : z_G) (sh : z_H) : z_H := z_u (sh) 24 (.inr (4, [.long 0, .long 0]))
def w_X4_24_s2 (g : z_G) (sh : z_H) : z_H := z_u (w_X4_24_s1 g sh) 24 (.inr (4, [.long 0, .long 1]))
def w_X4_24 (g : z_G) (sh : z_H) : z_H := w_X4_24_s2 g sh
set_option maxHeartbeats 4000000 in
set_option maxRecDepth 100000 in
theorem i_X4_24 {g : z_G} {sh : z_H} (h0 : sh 24 = .inr (4, [.long 0, .long 0])) : y_Ct g M_X4_init 1 0 0 25 25 [.ref (z_ad g 24)] sh (w_X4_24 g sh) :=
  y_Ct.of (by decide +kernel) rfl rfl (Nat.le_of_ble_eq_true rfl) (fun K cx ce' => by
    refine y_weak (L' := [some (.ref (z_ad g 24))]) (z_wk_s (z_wk_0)) ?_
    refine y_aload_n cx rfl rfl dX4_init_0 ?_
    refine y_objinit cx tb_92 tb_11 tb_12 (by decide) (Nat.le_of_ble_eq_true rfl) dX4_init_1 ?_
    refine y_aload_n cx rfl rfl dX4_init_4 ?_
    refine y_lconst (v := 0) cx (by decide +kernel) dX4_init_5 ?_
    refine y_putf (i := 24) (fs := [.long 0, .long 0]) (fs1 := [.long 0, .long 0]) (sh1 := w_X4_24_s1 g sh) cx z_cl4 (j := 0) (by decide) tb_93 rfl rfl rfl rfl (by decide) (Eq.trans (b := sh 24) rfl h0) rfl rfl (Nat.le_of_ble_eq_true rfl) dX4_init_6 ?_
    refine y_aload_n cx rfl rfl dX4_init_9 ?_
    refine y_lconst (v := 1) cx (by decide +kernel) dX4_init_10 ?_
    refine y_putf (i := 24) (fs := [.long 0, .long 0]) (fs1 := [.long 0, .long 1]) (sh1 := w_X4_24_s2 g sh) cx z_cl4 (j := 1) (by decide) tb_94 rfl rfl rfl rfl (by decide) rfl rfl rfl (Nat.le_of_ble_eq_true rfl) dX4_init_11 ?_
    exact y_ret cx ce' rfl dX4_init_14)
def w_X4_25_s1 (g : z_G) (sh : z_H) : z_H := z_u (sh) 25 (.inr (4, [.long 0, .long 0]))
def w_X4_25_s2 (g : z_G) (sh : z_H) : z_H := z_u (w_X4_25_s1 g sh) 25 (.inr (4, [.long 0, .long 1]))
def w_X4_25 (g : z_G) (sh : z_H) : z_H := w_X4_25_s2 g sh
set_option maxHeartbeats 4000000 in
set_option maxRecDepth 100000 in
theorem i_X4_25 {g : z_G} {sh : z_H} (h0 : sh 25 = .inr (4, [.long 0, .long 0])) : y_Ct g M_X4_init 1 0 0 26 26 [.ref (z_ad g 25)] sh (w_X4_25 g sh) :=
  y_Ct.of (by decide +kernel) rfl rfl (Nat.le_of_ble_eq_true rfl) (fun K cx ce' => by
    refine y_weak (L' := [some (.ref (z_ad g 25))]) (z_wk_s (z_wk_0)) ?_
    refine y_aload_n cx rfl rfl dX4_init_0 ?_
    refine y_objinit cx tb_92 tb_11 tb_12 (by decide) (Nat.le_of_ble_eq_true rfl) dX4_init_1 ?_
    refine y_aload_n cx rfl rfl dX4_init_4 ?_
    refine y_lconst (v := 0) cx (by decide +kernel) dX4_init_5 ?_
    refine y_putf (i := 25) (fs := [.long 0, .long 0]) (fs1 := [.long 0, .long 0]) (sh1 := w_X4_25_s1 g sh) cx z_cl4 (j := 0) (by decide) tb_93 rfl rfl rfl rfl (by decide) (Eq.trans (b := sh 25) rfl h0) rfl rfl (Nat.le_of_ble_eq_true rfl) dX4_init_6 ?_
    refine y_aload_n cx rfl rfl dX4_init_9 ?_
    refine y_lconst (v := 1) cx (by decide +kernel) dX4_init_10 ?_
    refine y_putf (i := 25) (fs := [.long 0, .long 0]) (fs1 := [.long 0, .long 1]) (sh1 := w_X4_25_s2 g sh) cx z_cl4 (j := 1) (by decide) tb_94 rfl rfl rfl rfl (by decide) rfl rfl rfl (Nat.le_of_ble_eq_true rfl) dX4_init_11 ?_
    exact y_ret cx ce' rfl dX4_init_14)
def w_X4_26_s1 (g : z_G) (sh : z_H) : z_H := z_u (sh) 26 (.inr (4, [.long 0, .long 0]))
def w_X4_26_s2 (g : z_G) (sh : z_H) : z_H := z_u (w_X4_26_s1 g sh) 26 (.inr (4, [.long 0, .long 1]))
def w_X4_26 (g : z_G) (sh : z_H) : z_H := w_X4_26_s2 g sh
set_option maxHeartbeats 4000000 in
set_option maxRecDepth 100000 in
theorem i_X4_26 {g : z_G} {sh : z_H} (h0 : sh 26 = .inr (4, [.long 0, .long 0])) : y_Ct g M_X4_init 1 0 0 27 27 [.ref (z_ad g 26)] sh (w_X4_26 g sh) :=
  y_Ct.of (by decide +kernel) rfl rfl (Nat.le_of_ble_eq_true rfl) (fun K cx ce' => by
    refine y_weak (L' := [some (.ref (z_ad g 26))]) (z_wk_s (z_wk_0)) ?_
    refine y_aload_n cx rfl rfl dX4_init_0 ?_
    refine y_objinit cx tb_92 tb_11 tb_12 (by decide) (Nat.le_of_ble_eq_true rfl) dX4_init_1 ?_
    refine y_aload_n cx rfl rfl dX4_init_4 ?_
    refine y_lconst (v := 0) cx (by decide +kernel) dX4_init_5 ?_
    refine y_putf (i := 26) (fs := [.long 0, .long 0]) (fs1 := [.long 0, .long 0]) (sh1 := w_X4_26_s1 g sh) cx z_cl4 (j := 0) (by decide) tb_93 rfl rfl rfl rfl (by decide) (Eq.trans (b := sh 26) rfl h0) rfl rfl (Nat.le_of_ble_eq_true rfl) dX4_init_6 ?_
    refine y_aload_n cx rfl rfl dX4_init_9 ?_
    refine y_lconst (v := 1) cx (by decide +kernel) dX4_init_10 ?_
    refine y_putf (i := 26) (fs := [.long 0, .long 0]) (fs1 := [.long 0, .long 1]) (sh1 := w_X4_26_s2 g sh) cx z_cl4 (j := 1) (by decide) tb_94 rfl rfl rfl rfl (by decide) rfl rfl rfl (Nat.le_of_ble_eq_true rfl) dX4_init_11 ?_
    exact y_ret cx ce' rfl dX4_init_14)
def w_X4_27_s1 (g : z_G) (sh : z_H) : z_H := z_u (sh) 27 (.inr (4, [.long 0, .long 0]))
def w_X4_27_s2 (g : z_G) (sh : z_H) : z_H := z_u (w_X4_27_s1 g sh) 27 (.inr (4, [.long 0, .long 1]))
def w_X4_27 (g : z_G) (sh : z_H) : z_H := w_X4_27_s2 g sh
set_option maxHeartbeats 4000000 in
set_option maxRecDepth 100000 in
theorem i_X4_27 {g : z_G} {sh : z_H} (h0 : sh 27 = .inr (4, [.long 0, .long 0])) : y_Ct g M_X4_init 1 0 0 28 28 [.ref (z_ad g 27)] sh (w_X4_27 g sh) :=
  y_Ct.of (by decide +kernel) rfl rfl (Nat.le_of_ble_eq_true rfl) (fun K cx ce' => by
    refine y_weak (L' := [some (.ref (z_ad g 27))]) (z_wk_s (z_wk_0)) ?_
    refine y_aload_n cx rfl rfl dX4_init_0 ?_
    refine y_objinit cx tb_92 tb_11 tb_12 (by decide) (Nat.le_of_ble_eq_true rfl) dX4_init_1 ?_
    refine y_aload_n cx rfl rfl dX4_init_4 ?_
    refine y_lconst (v := 0) cx (by decide +kernel) dX4_init_5 ?_
    refine y_putf (i := 27) (fs := [.long 0, .long 0]) (fs1 := [.long 0, .long 0]) (sh1 := w_X4_27_s1 g sh) cx z_cl4 (j := 0) (by decide) tb_93 rfl rfl rfl rfl (by decide) (Eq.trans (b := sh 27) rfl h0) rfl rfl (Nat.le_of_ble_eq_true rfl) dX4_init_6 ?_
    refine y_aload_n cx rfl rfl dX4_init_9 ?_
    refine y_lconst (v := 1) cx (by decide +kernel) dX4_init_10 ?_
    refine y_putf (i := 27) (fs := [.long 0, .long 0]) (fs1 := [.long 0, .long 1]) (sh1 := w_X4_27_s2 g sh) cx z_cl4 (j := 1) (by decide) tb_94 rfl rfl rfl rfl (by decide) rfl rfl rfl (Nat.le_of_ble_eq_true rfl) dX4_init_11 ?_
    exact y_ret cx ce' rfl dX4_init_14)
def w_X2_18_s1 (g : z_G) (sh : z_H) : z_H := z_u (sh) 18 (.inr (2, [.int 0, .null, .null, .null, .long 0, .long 0]))
def w_X2_18_s2 (g : z_G) (sh : z_H) : z_H := z_u (w_X2_18_s1 g sh) 19 (.inl (z_ac g 3, 6, .inr (.inr (.inr (.inr (fun _ => none))))))
def w_X2_18_s3 (g : z_G) (sh : z_H) : z_H := z_u (w_X2_18_s2 g sh) 18 (.inr (2, [.int 0, .ref (z_ad g 19), .null, .null, .long 0, .long 0]))
def w_X2_18_s4 (g : z_G) (sh : z_H) : z_H := z_u (w_X2_18_s3 g sh) 20 (.inl (z_ac g 0, 6, .inl (fun _ => 0)))
def w_X2_18_s5 (g : z_G) (sh : z_H) : z_H := z_u (w_X2_18_s4 g sh) 18 (.inr (2, [.int 0, .ref (z_ad g 19), .ref (z_ad g 20), .null, .long 0, .long 0]))
def w_X2_18_s6 (g : z_G) (sh : z_H) : z_H := z_u (w_X2_18_s5 g sh) 21 (.inl (z_ac g 1, 6, .inr (.inl (fun _ => 0))))
def w_X2_18_s7 (g : z_G) (sh : z_H) : z_H := z_u (w_X2_18_s6 g sh) 18 (.inr (2, [.int 0, .ref (z_ad g 19), .ref (z_ad g 20), .ref (z_ad g 21), .long 0, .long 0]))
def w_X2_18_s8 (g : z_G) (sh : z_H) : z_H := z_u (w_X2_18_s7 g sh) 18 (.inr (2, [.int 0, .ref (z_ad g 19), .ref (z_ad g 20), .ref (z_ad g 21), .long 1, .long 0]))
def w_X2_18_s9 (g : z_G) (sh : z_H) : z_H := z_u (w_X2_18_s8 g sh) 18 (.inr (2, [.int 0, .ref (z_ad g 19), .ref (z_ad g 20), .ref (z_ad g 21), .long 1, .long 0]))
def w_X2_18_s10 (g : z_G) (sh : z_H) : z_H := z_u (w_X2_18_s9 g sh) 22 (.inr (4, [.long 0, .long 0]))
def w_X2_18_s11 (g : z_G) (sh : z_H) : z_H := w_X4_22 g (w_X2_18_s10 g sh)
def wf_X2_18_1 (g : z_G) : Nat → Option Nat := va_up (fun _ => none) 0 (some (z_ad g 22))
def w_X2_18_s12 (g : z_G) (sh : z_H) : z_H := z_u (w_X2_18_s11 g sh) 19 (.inl (z_ac g 3, 6, .inr (.inr (.inr (.inr (wf_X2_18_1 g))))))
def w_X2_18_s13 (g : z_G) (sh : z_H) : z_H := z_u (w_X2_18_s12 g sh) 23 (.inr (4, [.long 0, .long 0]))
def w_X2_18_s14 (g : z_G) (sh : z_H) : z_H := w_X4_23 g (w_X2_18_s13 g sh)
def wf_X2_18_2 (g : z_G) : Nat → Option Nat := va_up (wf_X2_18_1 g) 1 (some (z_ad g 23))
def w_X2_18_s15 (g : z_G) (sh : z_H) : z_H := z_u (w_X2_18_s14 g sh) 19 (.inl (z_ac g 3, 6, .inr (.inr (.inr (.inr (wf_X2_18_2 g))))))
def w_X2_18_s16 (g : z_G) (sh : z_H) : z_H := z_u (w_X2_18_s15 g sh) 24 (.inr (4, [.long 0, .long 0]))
def w_X2_18_s17 (g : z_G) (sh : z_H) : z_H := w_X4_24 g (w_X2_18_s16 g sh)
def wf_X2_18_3 (g : z_G) : Nat → Option Nat := va_up (wf_X2_18_2 g) 2 (some (z_ad g 24))
def w_X2_18_s18 (g : z_G) (sh : z_H) : z_H := z_u (w_X2_18_s17 g sh) 19 (.inl (z_ac g 3, 6, .inr (.inr (.inr (.inr (wf_X2_18_3 g))))))
def w_X2_18_s19 (g : z_G) (sh : z_H) : z_H := z_u (w_X2_18_s18 g sh) 25 (.inr (4, [.long 0, .long 0]))
def w_X2_18_s20 (g : z_G) (sh : z_H) : z_H := w_X4_25 g (w_X2_18_s19 g sh)
def wf_X2_18_4 (g : z_G) : Nat → Option Nat := va_up (wf_X2_18_3 g) 3 (some (z_ad g 25))
def w_X2_18_s21 (g : z_G) (sh : z_H) : z_H := z_u (w_X2_18_s20 g sh) 19 (.inl (z_ac g 3, 6, .inr (.inr (.inr (.inr (wf_X2_18_4 g))))))
def w_X2_18_s22 (g : z_G) (sh : z_H) : z_H := z_u (w_X2_18_s21 g sh) 26 (.inr (4, [.long 0, .long 0]))
def w_X2_18_s23 (g : z_G) (sh : z_H) : z_H := w_X4_26 g (w_X2_18_s22 g sh)
def wf_X2_18_5 (g : z_G) : Nat → Option Nat := va_up (wf_X2_18_4 g) 4 (some (z_ad g 26))
def w_X2_18_s24 (g : z_G) (sh : z_H) : z_H := z_u (w_X2_18_s23 g sh) 19 (.inl (z_ac g 3, 6, .inr (.inr (.inr (.inr (wf_X2_18_5 g))))))
def w_X2_18_s25 (g : z_G) (sh : z_H) : z_H := z_u (w_X2_18_s24 g sh) 27 (.inr (4, [.long 0, .long 0]))
def w_X2_18_s26 (g : z_G) (sh : z_H) : z_H := w_X4_27 g (w_X2_18_s25 g sh)
def wf_X2_18_6 (g : z_G) : Nat → Option Nat := va_up (wf_X2_18_5 g) 5 (some (z_ad g 27))
def w_X2_18_s27 (g : z_G) (sh : z_H) : z_H := z_u (w_X2_18_s26 g sh) 19 (.inl (z_ac g 3, 6, .inr (.inr (.inr (.inr (wf_X2_18_6 g))))))
def w_X2_18 (g : z_G) (sh : z_H) : z_H := w_X2_18_s27 g sh
set_option maxHeartbeats 4000000 in
set_option maxRecDepth 100000 in
theorem i_X2_18 {g : z_G} {sh : z_H} (h0 : sh 18 = .inr (2, [.int 0, .null, .null, .null, .long 0, .long 0])) : y_Ct g M_X2_init 2 9 30 19 28 [.ref (z_ad g 18)] sh (w_X2_18 g sh) :=
  y_Ct.of (by decide +kernel) rfl rfl (Nat.le_of_ble_eq_true rfl) (fun K cx ce' => by
    refine y_weak (L' := [some (.ref (z_ad g 18)), none]) (z_wk_s (z_wk_e (z_wk_0))) ?_
    refine y_aload_n cx rfl rfl dX2_init_0 ?_
    refine y_objinit cx tb_98 tb_11 tb_12 (by decide) (Nat.le_of_ble_eq_true rfl) dX2_init_1 ?_
    refine y_aload_n cx rfl rfl dX2_init_4 ?_
    refine y_iconst (v := 0) cx (by decide +kernel) dX2_init_5 ?_
    refine y_putf (i := 18) (fs := [.int 0, .null, .null, .null, .long 0, .long 0]) (fs1 := [.int 0, .null, .null, .null, .long 0, .long 0]) (sh1 := w_X2_18_s1 g sh) cx z_cl2 (j := 0) (by decide) tb_99 rfl rfl rfl rfl (by decide) (Eq.trans (b := sh 18) rfl h0) rfl rfl (Nat.le_of_ble_eq_true rfl) dX2_init_6 ?_
    refine y_aload_n cx rfl rfl dX2_init_9 ?_
    refine y_bipush (v := 6) cx (by decide +kernel) dX2_init_10 ?_
    refine y_anew_F (sh1 := w_X2_18_s2 g sh) cx tb_100 rfl (by decide +kernel) (by decide +kernel) (by decide) rfl rfl rfl (by decide) (by decide) rfl dX2_init_12 ?_
    refine y_putF (i := 18) (fs := [.int 0, .null, .null, .null, .long 0, .long 0]) (fs1 := [.int 0, .ref (z_ad g 19), .null, .null, .long 0, .long 0]) (sh1 := w_X2_18_s3 g sh) cx z_cl2 (j := 1) (by decide) tb_101 rfl rfl ce'.2.2.1 rfl rfl rfl (by decide) rfl rfl rfl (Nat.le_of_ble_eq_true rfl) dX2_init_15 ?_
    refine y_aload_n cx rfl rfl dX2_init_18 ?_
    refine y_bipush (v := 6) cx (by decide +kernel) dX2_init_19 ?_
    refine y_newa_int (sh1 := w_X2_18_s4 g sh) cx tb_59 rfl (by decide +kernel) (by decide +kernel) (by decide) rfl rfl rfl (by decide) (by decide) rfl dX2_init_21 ?_
    refine y_putF (i := 18) (fs := [.int 0, .ref (z_ad g 19), .null, .null, .long 0, .long 0]) (fs1 := [.int 0, .ref (z_ad g 19), .ref (z_ad g 20), .null, .long 0, .long 0]) (sh1 := w_X2_18_s5 g sh) cx z_cl2 (j := 2) (by decide) tb_102 rfl rfl ce'.2.2.1 rfl rfl rfl (by decide) rfl rfl rfl (Nat.le_of_ble_eq_true rfl) dX2_init_23 ?_
    refine y_aload_n cx rfl rfl dX2_init_26 ?_
    refine y_bipush (v := 6) cx (by decide +kernel) dX2_init_27 ?_
    refine y_newa_long (sh1 := w_X2_18_s6 g sh) cx tb_103 rfl (by decide +kernel) (by decide +kernel) (by decide) rfl rfl rfl (by decide) (by decide) rfl dX2_init_29 ?_
    refine y_putF (i := 18) (fs := [.int 0, .ref (z_ad g 19), .ref (z_ad g 20), .null, .long 0, .long 0]) (fs1 := [.int 0, .ref (z_ad g 19), .ref (z_ad g 20), .ref (z_ad g 21), .long 0, .long 0]) (sh1 := w_X2_18_s7 g sh) cx z_cl2 (j := 3) (by decide) tb_104 rfl rfl ce'.2.2.1 rfl rfl rfl (by decide) rfl rfl rfl (Nat.le_of_ble_eq_true rfl) dX2_init_31 ?_
    refine y_aload_n cx rfl rfl dX2_init_34 ?_
    refine y_lconst (v := 1) cx (by decide +kernel) dX2_init_35 ?_
    refine y_putf (i := 18) (fs := [.int 0, .ref (z_ad g 19), .ref (z_ad g 20), .ref (z_ad g 21), .long 0, .long 0]) (fs1 := [.int 0, .ref (z_ad g 19), .ref (z_ad g 20), .ref (z_ad g 21), .long 1, .long 0]) (sh1 := w_X2_18_s8 g sh) cx z_cl2 (j := 4) (by decide) tb_105 rfl rfl rfl rfl (by decide) rfl rfl rfl (Nat.le_of_ble_eq_true rfl) dX2_init_36 ?_
    refine y_aload_n cx rfl rfl dX2_init_39 ?_
    refine y_lconst (v := 0) cx (by decide +kernel) dX2_init_40 ?_
    refine y_putf (i := 18) (fs := [.int 0, .ref (z_ad g 19), .ref (z_ad g 20), .ref (z_ad g 21), .long 1, .long 0]) (fs1 := [.int 0, .ref (z_ad g 19), .ref (z_ad g 20), .ref (z_ad g 21), .long 1, .long 0]) (sh1 := w_X2_18_s9 g sh) cx z_cl2 (j := 5) (by decide) tb_106 rfl rfl rfl rfl (by decide) rfl rfl rfl (Nat.le_of_ble_eq_true rfl) dX2_init_41 ?_
    refine y_iconst (v := 0) cx (by decide +kernel) dX2_init_44 ?_
    refine y_istore_n (L' := [some (.ref (z_ad g 18)), some (.int 0)]) cx rfl (by decide) rfl dX2_init_45 ?_
    refine y_iload_n cx rfl rfl dX2_init_46 ?_
    refine y_bipush (v := 6) cx (by decide +kernel) dX2_init_47 ?_
    refine y_ge_f (tgt := 71) cx (by decide +kernel) (by decide) dX2_init_49 ?_
    refine y_aload_n cx rfl rfl dX2_init_52 ?_
    refine y_getf (i := 18) (fs := [.int 0, .ref (z_ad g 19), .ref (z_ad g 20), .ref (z_ad g 21), .long 1, .long 0]) (v := .ref (z_ad g 19)) cx z_cl2 (j := 1) (by decide) tb_101 rfl (by decide) rfl rfl dX2_init_53 ?_
    refine y_iload_n cx rfl rfl dX2_init_56 ?_
    refine y_new (fs := [.long 0, .long 0]) (sh1 := w_X2_18_s10 g sh) cx z_cl4 tb_100 tb_32 tb_33 df_X4 rfl rfl rfl rfl (by decide) (by decide) rfl dX2_init_57 ?_
    refine y_dup cx rfl dX2_init_60 ?_
    refine y_call (sh1 := w_X2_18_s11 g sh) cx yo_X4 (Or.inr ⟨"HasShut", List.mem_of_getElem? (i := 8) rfl⟩) (by decide) (Nat.le_of_ble_eq_true rfl) rfl rfl rfl (by decide) (by decide) dX2_init_61 (i_X4_22 (sh := w_X2_18_s10 g sh) rfl) ?_
    refine y_aast_F (q := 19) (n := 6) (m := 0) (v := 22) (vs := [.long 0, .long 1]) (f := (fun _ => none)) (f1 := (wf_X2_18_1 g)) (sh1 := w_X2_18_s12 g sh) cx (by decide) rfl (by decide) rfl (vp_in_lit (by decide +kernel)) (by decide +kernel) rfl rfl dX2_init_64 ?_
    refine y_iinc (c := 1) (L' := [some (.ref (z_ad g 18)), some (.int 1)]) cx rfl (by decide +kernel) (by decide) rfl dX2_init_65 ?_
    refine y_goto (tgt := 46) cx (by decide) dX2_init_68 ?_
    refine y_iload_n cx rfl rfl dX2_init_46 ?_
    refine y_bipush (v := 6) cx (by decide +kernel) dX2_init_47 ?_
    refine y_ge_f (tgt := 71) cx (by decide +kernel) (by decide) dX2_init_49 ?_
    refine y_aload_n cx rfl rfl dX2_init_52 ?_
    refine y_getf (i := 18) (fs := [.int 0, .ref (z_ad g 19), .ref (z_ad g 20), .ref (z_ad g 21), .long 1, .long 0]) (v := .ref (z_ad g 19)) cx z_cl2 (j := 1) (by decide) tb_101 rfl (by decide) rfl rfl dX2_init_53 ?_
    refine y_iload_n cx rfl rfl dX2_init_56 ?_
    refine y_new (fs := [.long 0, .long 0]) (sh1 := w_X2_18_s13 g sh) cx z_cl4 tb_100 tb_32 tb_33 df_X4 rfl rfl rfl rfl (by decide) (by decide) rfl dX2_init_57 ?_
    refine y_dup cx rfl dX2_init_60 ?_
    refine y_call (sh1 := w_X2_18_s14 g sh) cx yo_X4 (Or.inr ⟨"HasShut", List.mem_of_getElem? (i := 8) rfl⟩) (by decide) (Nat.le_of_ble_eq_true rfl) rfl rfl rfl (by decide) (by decide) dX2_init_61 (i_X4_23 (sh := w_X2_18_s13 g sh) rfl) ?_
    refine y_aast_F (q := 19) (n := 6) (m := 1) (v := 23) (vs := [.long 0, .long 1]) (f := (wf_X2_18_1 g)) (f1 := (wf_X2_18_2 g)) (sh1 := w_X2_18_s15 g sh) cx (by decide) rfl (by decide) rfl (vp_in_lit (by decide +kernel)) (by decide +kernel) rfl rfl dX2_init_64 ?_
    refine y_iinc (c := 2) (L' := [some (.ref (z_ad g 18)), some (.int 2)]) cx rfl (by decide +kernel) (by decide) rfl dX2_init_65 ?_
    refine y_goto (tgt := 46) cx (by decide) dX2_init_68 ?_
    refine y_iload_n cx rfl rfl dX2_init_46 ?_
    refine y_bipush (v := 6) cx (by decide +kernel) dX2_init_47 ?_
    refine y_ge_f (tgt := 71) cx (by decide +kernel) (by decide) dX2_init_49 ?_
    refine y_aload_n cx rfl rfl dX2_init_52 ?_
    refine y_getf (i := 18) (fs := [.int 0, .ref (z_ad g 19), .ref (z_ad g 20), .ref (z_ad g 21), .long 1, .long 0]) (v := .ref (z_ad g 19)) cx z_cl2 (j := 1) (by decide) tb_101 rfl (by decide) rfl rfl dX2_init_53 ?_
    refine y_iload_n cx rfl rfl dX2_init_56 ?_
    refine y_new (fs := [.long 0, .long 0]) (sh1 := w_X2_18_s16 g sh) cx z_cl4 tb_100 tb_32 tb_33 df_X4 rfl rfl rfl rfl (by decide) (by decide) rfl dX2_init_57 ?_
    refine y_dup cx rfl dX2_init_60 ?_
    refine y_call (sh1 := w_X2_18_s17 g sh) cx yo_X4 (Or.inr ⟨"HasShut", List.mem_of_getElem? (i := 8) rfl⟩) (by decide) (Nat.le_of_ble_eq_true rfl) rfl rfl rfl (by decide) (by decide) dX2_init_61 (i_X4_24 (sh := w_X2_18_s16 g sh) rfl) ?_
    refine y_aast_F (q := 19) (n := 6) (m := 2) (v := 24) (vs := [.long 0, .long 1]) (f := (wf_X2_18_2 g)) (f1 := (wf_X2_18_3 g)) (sh1 := w_X2_18_s18 g sh) cx (by decide) rfl (by decide) rfl (vp_in_lit (by decide +kernel)) (by decide +kernel) rfl rfl dX2_init_64 ?_
    refine y_iinc (c := 3) (L' := [some (.ref (z_ad g 18)), some (.int 3)]) cx rfl (by decide +kernel) (by decide) rfl dX2_init_65 ?_
    refine y_goto (tgt := 46) cx (by decide) dX2_init_68 ?_
    refine y_iload_n cx rfl rfl dX2_init_46 ?_
    refine y_bipush (v := 6) cx (by decide +kernel) dX2_init_47 ?_
    refine y_ge_f (tgt := 71) cx (by decide +kernel) (by decide) dX2_init_49 ?_
    refine y_aload_n cx rfl rfl dX2_init_52 ?_
    refine y_getf (i := 18) (fs := [.int 0, .ref (z_ad g 19), .ref (z_ad g 20), .ref (z_ad g 21), .long 1, .long 0]) (v := .ref (z_ad g 19)) cx z_cl2 (j := 1) (by decide) tb_101 rfl (by decide) rfl rfl dX2_init_53 ?_
    refine y_iload_n cx rfl rfl dX2_init_56 ?_
    refine y_new (fs := [.long 0, .long 0]) (sh1 := w_X2_18_s19 g sh) cx z_cl4 tb_100 tb_32 tb_33 df_X4 rfl rfl rfl rfl (by decide) (by decide) rfl dX2_init_57 ?_
    refine y_dup cx rfl dX2_init_60 ?_
    refine y_call (sh1 := w_X2_18_s20 g sh) cx yo_X4 (Or.inr ⟨"HasShut", List.mem_of_getElem? (i := 8) rfl⟩) (by decide) (Nat.le_of_ble_eq_true rfl) rfl rfl rfl (by decide) (by decide) dX2_init_61 (i_X4_25 (sh := w_X2_18_s19 g sh) rfl) ?_
    refine y_aast_F (q := 19) (n := 6) (m := 3) (v := 25) (vs := [.long 0, .long 1]) (f := (wf_X2_18_3 g)) (f1 := (wf_X2_18_4 g)) (sh1 := w_X2_18_s21 g sh) cx (by decide) rfl (by decide) rfl (vp_in_lit (by decide +kernel)) (by decide +kernel) rfl rfl dX2_init_64 ?_
    refine y_iinc (c := 4) (L' := [some (.ref (z_ad g 18)), some (.int 4)]) cx rfl (by decide +kernel) (by decide) rfl dX2_init_65 ?_
    refine y_goto (tgt := 46) cx (by decide) dX2_init_68 ?_
    refine y_iload_n cx rfl rfl dX2_init_46 ?_
    refine y_bipush (v := 6) cx (by decide +kernel) dX2_init_47 ?_
    refine y_ge_f (tgt := 71) cx (by decide +kernel) (by decide) dX2_init_49 ?_
    refine y_aload_n cx rfl rfl dX2_init_52 ?_
    refine y_getf (i := 18) (fs := [.int 0, .ref (z_ad g 19), .ref (z_ad g 20), .ref (z_ad g 21), .long 1, .long 0]) (v := .ref (z_ad g 19)) cx z_cl2 (j := 1) (by decide) tb_101 rfl (by decide) rfl rfl dX2_init_53 ?_
    refine y_iload_n cx rfl rfl dX2_init_56 ?_
    refine y_new (fs := [.long 0, .long 0]) (sh1 := w_X2_18_s22 g sh) cx z_cl4 tb_100 tb_32 tb_33 df_X4 rfl rfl rfl rfl (by decide) (by decide) rfl dX2_init_57 ?_
    refine y_dup cx rfl dX2_init_60 ?_
    refine y_call (sh1 := w_X2_18_s23 g sh) cx yo_X4 (Or.inr ⟨"HasShut", List.mem_of_getElem? (i := 8) rfl⟩) (by decide) (Nat.le_of_ble_eq_true rfl) rfl rfl rfl (by decide) (by decide) dX2_init_61 (i_X4_26 (sh := w_X2_18_s22 g sh) rfl) ?_
    refine y_aast_F (q := 19) (n := 6) (m := 4) (v := 26) (vs := [.long 0, .long 1]) (f := (wf_X2_18_4 g)) (f1 := (wf_X2_18_5 g)) (sh1 := w_X2_18_s24 g sh) cx (by decide) rfl (by decide) rfl (vp_in_lit (by decide +kernel)) (by decide +kernel) rfl rfl dX2_init_64 ?_
    refine y_iinc (c := 5) (L' := [some (.ref (z_ad g 18)), some (.int 5)]) cx rfl (by decide +kernel) (by decide) rfl dX2_init_65 ?_
    refine y_goto (tgt := 46) cx (by decide) dX2_init_68 ?_
    refine y_iload_n cx rfl rfl dX2_init_46 ?_
    refine y_bipush (v := 6) cx (by decide +kernel) dX2_init_47 ?_
    refine y_ge_f (tgt := 71) cx (by decide +kernel) (by decide) dX2_init_49 ?_
    refine y_aload_n cx rfl rfl dX2_init_52 ?_
    refine y_getf (i := 18) (fs := [.int 0, .ref (z_ad g 19), .ref (z_ad g 20), .ref (z_ad g 21), .long 1, .long 0]) (v := .ref (z_ad g 19)) cx z_cl2 (j := 1) (by decide) tb_101 rfl (by decide) rfl rfl dX2_init_53 ?_
    refine y_iload_n cx rfl rfl dX2_init_56 ?_
    refine y_new (fs := [.long 0, .long 0]) (sh1 := w_X2_18_s25 g sh) cx z_cl4 tb_100 tb_32 tb_33 df_X4 rfl rfl rfl rfl (by decide) (by decide) rfl dX2_init_57 ?_
    refine y_dup cx rfl dX2_init_60 ?_
    refine y_call (sh1 := w_X2_18_s26 g sh) cx yo_X4 (Or.inr ⟨"HasShut", List.mem_of_getElem? (i := 8) rfl⟩) (by decide) (Nat.le_of_ble_eq_true rfl) rfl rfl rfl (by decide) (by decide) dX2_init_61 (i_X4_27 (sh := w_X2_18_s25 g sh) rfl) ?_
    refine y_aast_F (q := 19) (n := 6) (m := 5) (v := 27) (vs := [.long 0, .long 1]) (f := (wf_X2_18_5 g)) (f1 := (wf_X2_18_6 g)) (sh1 := w_X2_18_s27 g sh) cx (by decide) rfl (by decide) rfl (vp_in_lit (by decide +kernel)) (by decide +kernel) rfl rfl dX2_init_64 ?_
    refine y_iinc (c := 6) (L' := [some (.ref (z_ad g 18)), some (.int 6)]) cx rfl (by decide +kernel) (by decide) rfl dX2_init_65 ?_
    refine y_goto (tgt := 46) cx (by decide) dX2_init_68 ?_
    refine y_iload_n cx rfl rfl dX2_init_46 ?_
    refine y_bipush (v := 6) cx (by decide +kernel) dX2_init_47 ?_
    refine y_ge_t (tgt := 71) cx (by decide +kernel) (by decide) dX2_init_49 ?_
    exact y_ret cx ce' rfl dX2_init_71)
def w_X7_28_s1 (g : z_G) (sh : z_H) : z_H := z_u (sh) 29 (.inl (z_ac g 0, 7, .inl (fun _ => 0)))
def w_X7_28_s2 (g : z_G) (sh : z_H) : z_H := z_u (w_X7_28_s1 g sh) 28 (.inr (7, [.ref (z_ad g 29), .null, .int 0, .int 0]))
def w_X7_28_s3 (g : z_G) (sh : z_H) : z_H := z_u (w_X7_28_s2 g sh) 30 (.inl (z_ac g 0, 7, .inl (fun _ => 0)))
def w_X7_28_s4 (g : z_G) (sh : z_H) : z_H := z_u (w_X7_28_s3 g sh) 28 (.inr (7, [.ref (z_ad g 29), .ref (z_ad g 30), .int 0, .int 0]))
def w_X7_28_s5 (g : z_G) (sh : z_H) : z_H := z_u (w_X7_28_s4 g sh) 28 (.inr (7, [.ref (z_ad g 29), .ref (z_ad g 30), .int 0, .int 0]))
def w_X7_28_s6 (g : z_G) (sh : z_H) : z_H := z_u (w_X7_28_s5 g sh) 28 (.inr (7, [.ref (z_ad g 29), .ref (z_ad g 30), .int 0, .int 0]))
def w_X7_28 (g : z_G) (sh : z_H) : z_H := w_X7_28_s6 g sh
set_option maxHeartbeats 4000000 in
set_option maxRecDepth 100000 in
theorem i_X7_28 {g : z_G} {sh : z_H} (h0 : sh 28 = .inr (7, [.null, .null, .int 0, .int 0])) : y_Ct g M_X7_init 1 2 14 29 31 [.ref (z_ad g 28)] sh (w_X7_28 g sh) :=
  y_Ct.of (by decide +kernel) rfl rfl (Nat.le_of_ble_eq_true rfl) (fun K cx ce' => by
    refine y_weak (L' := [some (.ref (z_ad g 28))]) (z_wk_s (z_wk_0)) ?_
    refine y_aload_n cx rfl rfl dX7_init_0 ?_
    refine y_objinit cx tb_109 tb_11 tb_12 (by decide) (Nat.le_of_ble_eq_true rfl) dX7_init_1 ?_
    refine y_aload_n cx rfl rfl dX7_init_4 ?_
    refine y_bipush (v := 7) cx (by decide +kernel) dX7_init_5 ?_
    refine y_newa_int (sh1 := w_X7_28_s1 g sh) cx tb_59 rfl (by decide +kernel) (by decide +kernel) (by decide) rfl rfl rfl (by decide) (by decide) rfl dX7_init_7 ?_
    refine y_putF (i := 28) (fs := [.null, .null, .int 0, .int 0]) (fs1 := [.ref (z_ad g 29), .null, .int 0, .int 0]) (sh1 := w_X7_28_s2 g sh) cx z_cl7 (j := 0) (by decide) tb_110 rfl rfl ce'.2.2.1 rfl rfl rfl (by decide) (Eq.trans (b := sh 28) rfl h0) rfl rfl (Nat.le_of_ble_eq_true rfl) dX7_init_9 ?_
    refine y_aload_n cx rfl rfl dX7_init_12 ?_
    refine y_bipush (v := 7) cx (by decide +kernel) dX7_init_13 ?_
    refine y_newa_int (sh1 := w_X7_28_s3 g sh) cx tb_59 rfl (by decide +kernel) (by decide +kernel) (by decide) rfl rfl rfl (by decide) (by decide) rfl dX7_init_15 ?_
    refine y_putF (i := 28) (fs := [.ref (z_ad g 29), .null, .int 0, .int 0]) (fs1 := [.ref (z_ad g 29), .ref (z_ad g 30), .int 0, .int 0]) (sh1 := w_X7_28_s4 g sh) cx z_cl7 (j := 1) (by decide) tb_111 rfl rfl ce'.2.2.1 rfl rfl rfl (by decide) rfl rfl rfl (Nat.le_of_ble_eq_true rfl) dX7_init_17 ?_
    refine y_aload_n cx rfl rfl dX7_init_20 ?_
    refine y_iconst (v := 0) cx (by decide +kernel) dX7_init_21 ?_
    refine y_putf (i := 28) (fs := [.ref (z_ad g 29), .ref (z_ad g 30), .int 0, .int 0]) (fs1 := [.ref (z_ad g 29), .ref (z_ad g 30), .int 0, .int 0]) (sh1 := w_X7_28_s5 g sh) cx z_cl7 (j := 2) (by decide) tb_112 rfl rfl rfl rfl (by decide) rfl rfl rfl (Nat.le_of_ble_eq_true rfl) dX7_init_22 ?_
    refine y_aload_n cx rfl rfl dX7_init_25 ?_
    refine y_iconst (v := 0) cx (by decide +kernel) dX7_init_26 ?_
    refine y_putf (i := 28) (fs := [.ref (z_ad g 29), .ref (z_ad g 30), .int 0, .int 0]) (fs1 := [.ref (z_ad g 29), .ref (z_ad g 30), .int 0, .int 0]) (sh1 := w_X7_28_s6 g sh) cx z_cl7 (j := 3) (by decide) tb_113 rfl rfl rfl rfl (by decide) rfl rfl rfl (Nat.le_of_ble_eq_true rfl) dX7_init_27 ?_
    exact y_ret cx ce' rfl dX7_init_30)
def w_X3_31_s1 (g : z_G) (sh : z_H) : z_H := z_u (sh) 31 (.inr (3, [.int 0, .int 0, .int 0]))
def w_X3_31_s2 (g : z_G) (sh : z_H) : z_H := z_u (w_X3_31_s1 g sh) 31 (.inr (3, [.int 0, .int 0, .int 0]))
def w_X3_31_s3 (g : z_G) (sh : z_H) : z_H := z_u (w_X3_31_s2 g sh) 31 (.inr (3, [.int 0, .int 0, .int 0]))
def w_X3_31 (g : z_G) (sh : z_H) : z_H := w_X3_31_s3 g sh
set_option maxHeartbeats 4000000 in
set_option maxRecDepth 100000 in
theorem i_X3_31 {g : z_G} {sh : z_H} (h0 : sh 31 = .inr (3, [.int 0, .int 0, .int 0])) : y_Ct g M_X3_init 1 0 0 32 32 [.ref (z_ad g 31)] sh (w_X3_31 g sh) :=
  y_Ct.of (by decide +kernel) rfl rfl (Nat.le_of_ble_eq_true rfl) (fun K cx ce' => by
    refine y_weak (L' := [some (.ref (z_ad g 31))]) (z_wk_s (z_wk_0)) ?_
    refine y_aload_n cx rfl rfl dX3_init_0 ?_
    refine y_objinit cx tb_116 tb_11 tb_12 (by decide) (Nat.le_of_ble_eq_true rfl) dX3_init_1 ?_
    refine y_aload_n cx rfl rfl dX3_init_4 ?_
    refine y_iconst (v := 0) cx (by decide +kernel) dX3_init_5 ?_
    refine y_putf (i := 31) (fs := [.int 0, .int 0, .int 0]) (fs1 := [.int 0, .int 0, .int 0]) (sh1 := w_X3_31_s1 g sh) cx z_cl3 (j := 0) (by decide) tb_117 rfl rfl rfl rfl (by decide) (Eq.trans (b := sh 31) rfl h0) rfl rfl (Nat.le_of_ble_eq_true rfl) dX3_init_6 ?_
    refine y_aload_n cx rfl rfl dX3_init_9 ?_
    refine y_iconst (v := 0) cx (by decide +kernel) dX3_init_10 ?_
    refine y_putf (i := 31) (fs := [.int 0, .int 0, .int 0]) (fs1 := [.int 0, .int 0, .int 0]) (sh1 := w_X3_31_s2 g sh) cx z_cl3 (j := 1) (by decide) tb_118 rfl rfl rfl rfl (by decide) rfl rfl rfl (Nat.le_of_ble_eq_true rfl) dX3_init_11 ?_
    refine y_aload_n cx rfl rfl dX3_init_14 ?_
    refine y_iconst (v := 0) cx (by decide +kernel) dX3_init_15 ?_
    refine y_putf (i := 31) (fs := [.int 0, .int 0, .int 0]) (fs1 := [.int 0, .int 0, .int 0]) (sh1 := w_X3_31_s3 g sh) cx z_cl3 (j := 2) (by decide) tb_119 rfl rfl rfl rfl (by decide) rfl rfl rfl (Nat.le_of_ble_eq_true rfl) dX3_init_16 ?_
    exact y_ret cx ce' rfl dX3_init_19)
def w_X5_32_s1 (g : z_G) (sh : z_H) : z_H := z_u (sh) 33 (.inl (z_ac g 0, 50, .inl (fun _ => 0)))
def w_X5_32_s2 (g : z_G) (sh : z_H) : z_H := z_u (w_X5_32_s1 g sh) 32 (.inr (5, [.ref (z_ad g 33), .int 0, .null, .int 0, .int 0, .int 0]))
def w_X5_32_s3 (g : z_G) (sh : z_H) : z_H := z_u (w_X5_32_s2 g sh) 32 (.inr (5, [.ref (z_ad g 33), .int 0, .null, .int 0, .int 0, .int 0]))
def w_X5_32_s4 (g : z_G) (sh : z_H) : z_H := z_u (w_X5_32_s3 g sh) 34 (.inl (z_ac g 0, 24, .inl (fun _ => 0)))
def w_X5_32_s5 (g : z_G) (sh : z_H) : z_H := z_u (w_X5_32_s4 g sh) 32 (.inr (5, [.ref (z_ad g 33), .int 0, .ref (z_ad g 34), .int 0, .int 0, .int 0]))
def w_X5_32_s6 (g : z_G) (sh : z_H) : z_H := z_u (w_X5_32_s5 g sh) 32 (.inr (5, [.ref (z_ad g 33), .int 0, .ref (z_ad g 34), .int 0, .int 0, .int 0]))
def w_X5_32_s7 (g : z_G) (sh : z_H) : z_H := z_u (w_X5_32_s6 g sh) 32 (.inr (5, [.ref (z_ad g 33), .int 0, .ref (z_ad g 34), .int 0, .int 0, .int 0]))
def w_X5_32_s8 (g : z_G) (sh : z_H) : z_H := z_u (w_X5_32_s7 g sh) 32 (.inr (5, [.ref (z_ad g 33), .int 0, .ref (z_ad g 34), .int 0, .int 0, .int 0]))
def w_X5_32 (g : z_G) (sh : z_H) : z_H := w_X5_32_s8 g sh
set_option maxHeartbeats 4000000 in
set_option maxRecDepth 100000 in
theorem i_X5_32 {g : z_G} {sh : z_H} (h0 : sh 32 = .inr (5, [.null, .int 0, .null, .int 0, .int 0, .int 0])) : y_Ct g M_X5_init 1 2 74 33 35 [.ref (z_ad g 32)] sh (w_X5_32 g sh) :=
  y_Ct.of (by decide +kernel) rfl rfl (Nat.le_of_ble_eq_true rfl) (fun K cx ce' => by
    refine y_weak (L' := [some (.ref (z_ad g 32))]) (z_wk_s (z_wk_0)) ?_
    refine y_aload_n cx rfl rfl dX5_init_0 ?_
    refine y_objinit cx tb_122 tb_11 tb_12 (by decide) (Nat.le_of_ble_eq_true rfl) dX5_init_1 ?_
    refine y_aload_n cx rfl rfl dX5_init_4 ?_
    refine y_bipush (v := 50) cx (by decide +kernel) dX5_init_5 ?_
    refine y_newa_int (sh1 := w_X5_32_s1 g sh) cx tb_59 rfl (by decide +kernel) (by decide +kernel) (by decide) rfl rfl rfl (by decide) (by decide) rfl dX5_init_7 ?_
    refine y_putF (i := 32) (fs := [.null, .int 0, .null, .int 0, .int 0, .int 0]) (fs1 := [.ref (z_ad g 33), .int 0, .null, .int 0, .int 0, .int 0]) (sh1 := w_X5_32_s2 g sh) cx z_cl5 (j := 0) (by decide) tb_123 rfl rfl ce'.2.2.1 rfl rfl rfl (by decide) (Eq.trans (b := sh 32) rfl h0) rfl rfl (Nat.le_of_ble_eq_true rfl) dX5_init_9 ?_
    refine y_aload_n cx rfl rfl dX5_init_12 ?_
    refine y_iconst (v := 0) cx (by decide +kernel) dX5_init_13 ?_
    refine y_putf (i := 32) (fs := [.ref (z_ad g 33), .int 0, .null, .int 0, .int 0, .int 0]) (fs1 := [.ref (z_ad g 33), .int 0, .null, .int 0, .int 0, .int 0]) (sh1 := w_X5_32_s3 g sh) cx z_cl5 (j := 1) (by decide) tb_124 rfl rfl rfl rfl (by decide) rfl rfl rfl (Nat.le_of_ble_eq_true rfl) dX5_init_14 ?_
    refine y_aload_n cx rfl rfl dX5_init_17 ?_
    refine y_bipush (v := 24) cx (by decide +kernel) dX5_init_18 ?_
    refine y_newa_int (sh1 := w_X5_32_s4 g sh) cx tb_59 rfl (by decide +kernel) (by decide +kernel) (by decide) rfl rfl rfl (by decide) (by decide) rfl dX5_init_20 ?_
    refine y_putF (i := 32) (fs := [.ref (z_ad g 33), .int 0, .null, .int 0, .int 0, .int 0]) (fs1 := [.ref (z_ad g 33), .int 0, .ref (z_ad g 34), .int 0, .int 0, .int 0]) (sh1 := w_X5_32_s5 g sh) cx z_cl5 (j := 2) (by decide) tb_125 rfl rfl ce'.2.2.1 rfl rfl rfl (by decide) rfl rfl rfl (Nat.le_of_ble_eq_true rfl) dX5_init_22 ?_
    refine y_aload_n cx rfl rfl dX5_init_25 ?_
    refine y_iconst (v := 0) cx (by decide +kernel) dX5_init_26 ?_
    refine y_putf (i := 32) (fs := [.ref (z_ad g 33), .int 0, .ref (z_ad g 34), .int 0, .int 0, .int 0]) (fs1 := [.ref (z_ad g 33), .int 0, .ref (z_ad g 34), .int 0, .int 0, .int 0]) (sh1 := w_X5_32_s6 g sh) cx z_cl5 (j := 3) (by decide) tb_126 rfl rfl rfl rfl (by decide) rfl rfl rfl (Nat.le_of_ble_eq_true rfl) dX5_init_27 ?_
    refine y_aload_n cx rfl rfl dX5_init_30 ?_
    refine y_iconst (v := 0) cx (by decide +kernel) dX5_init_31 ?_
    refine y_putf (i := 32) (fs := [.ref (z_ad g 33), .int 0, .ref (z_ad g 34), .int 0, .int 0, .int 0]) (fs1 := [.ref (z_ad g 33), .int 0, .ref (z_ad g 34), .int 0, .int 0, .int 0]) (sh1 := w_X5_32_s7 g sh) cx z_cl5 (j := 4) (by decide) tb_127 rfl rfl rfl rfl (by decide) rfl rfl rfl (Nat.le_of_ble_eq_true rfl) dX5_init_32 ?_
    refine y_aload_n cx rfl rfl dX5_init_35 ?_
    refine y_iconst (v := 0) cx (by decide +kernel) dX5_init_36 ?_
    refine y_putf (i := 32) (fs := [.ref (z_ad g 33), .int 0, .ref (z_ad g 34), .int 0, .int 0, .int 0]) (fs1 := [.ref (z_ad g 33), .int 0, .ref (z_ad g 34), .int 0, .int 0, .int 0]) (sh1 := w_X5_32_s8 g sh) cx z_cl5 (j := 5) (by decide) tb_128 rfl rfl rfl rfl (by decide) rfl rfl rfl (Nat.le_of_ble_eq_true rfl) dX5_init_37 ?_
    exact y_ret cx ce' rfl dX5_init_40)
def w_X8_36_s1 (g : z_G) (sh : z_H) : z_H := z_u (sh) 36 (.inr (8, [.int 0, .int 0, .int 0, .int 0, .null]))
def w_X8_36_s2 (g : z_G) (sh : z_H) : z_H := z_u (w_X8_36_s1 g sh) 36 (.inr (8, [.int 0, .int (-1), .int 0, .int 0, .null]))
def w_X8_36_s3 (g : z_G) (sh : z_H) : z_H := z_u (w_X8_36_s2 g sh) 36 (.inr (8, [.int 0, .int (-1), .int 0, .int 0, .null]))
def w_X8_36_s4 (g : z_G) (sh : z_H) : z_H := z_u (w_X8_36_s3 g sh) 36 (.inr (8, [.int 0, .int (-1), .int 0, .int 0, .null]))
def w_X8_36_s5 (g : z_G) (sh : z_H) : z_H := z_u (w_X8_36_s4 g sh) 37 (.inl (z_ac g 1, 60, .inr (.inl (fun _ => 0))))
def w_X8_36_s6 (g : z_G) (sh : z_H) : z_H := z_u (w_X8_36_s5 g sh) 36 (.inr (8, [.int 0, .int (-1), .int 0, .int 0, .ref (z_ad g 37)]))
def w_X8_36 (g : z_G) (sh : z_H) : z_H := w_X8_36_s6 g sh
set_option maxHeartbeats 4000000 in
set_option maxRecDepth 100000 in
theorem i_X8_36 {g : z_G} {sh : z_H} (h0 : sh 36 = .inr (8, [.int 0, .int 0, .int 0, .int 0, .null])) : y_Ct g M_X8_init 1 1 60 37 38 [.ref (z_ad g 36)] sh (w_X8_36 g sh) :=
  y_Ct.of (by decide +kernel) rfl rfl (Nat.le_of_ble_eq_true rfl) (fun K cx ce' => by
    refine y_weak (L' := [some (.ref (z_ad g 36))]) (z_wk_s (z_wk_0)) ?_
    refine y_aload_n cx rfl rfl dX8_init_0 ?_
    refine y_objinit cx tb_131 tb_11 tb_12 (by decide) (Nat.le_of_ble_eq_true rfl) dX8_init_1 ?_
    refine y_aload_n cx rfl rfl dX8_init_4 ?_
    refine y_iconst (v := 0) cx (by decide +kernel) dX8_init_5 ?_
    refine y_putf (i := 36) (fs := [.int 0, .int 0, .int 0, .int 0, .null]) (fs1 := [.int 0, .int 0, .int 0, .int 0, .null]) (sh1 := w_X8_36_s1 g sh) cx z_cl8 (j := 0) (by decide) tb_132 rfl rfl rfl rfl (by decide) (Eq.trans (b := sh 36) rfl h0) rfl rfl (Nat.le_of_ble_eq_true rfl) dX8_init_6 ?_
    refine y_aload_n cx rfl rfl dX8_init_9 ?_
    refine y_iconst (v := (-1)) cx (by decide +kernel) dX8_init_10 ?_
    refine y_putf (i := 36) (fs := [.int 0, .int 0, .int 0, .int 0, .null]) (fs1 := [.int 0, .int (-1), .int 0, .int 0, .null]) (sh1 := w_X8_36_s2 g sh) cx z_cl8 (j := 1) (by decide) tb_133 rfl rfl rfl rfl (by decide) rfl rfl rfl (Nat.le_of_ble_eq_true rfl) dX8_init_11 ?_
    refine y_aload_n cx rfl rfl dX8_init_14 ?_
    refine y_iconst (v := 0) cx (by decide +kernel) dX8_init_15 ?_
    refine y_putf (i := 36) (fs := [.int 0, .int (-1), .int 0, .int 0, .null]) (fs1 := [.int 0, .int (-1), .int 0, .int 0, .null]) (sh1 := w_X8_36_s3 g sh) cx z_cl8 (j := 2) (by decide) tb_134 rfl rfl rfl rfl (by decide) rfl rfl rfl (Nat.le_of_ble_eq_true rfl) dX8_init_16 ?_
    refine y_aload_n cx rfl rfl dX8_init_19 ?_
    refine y_iconst (v := 0) cx (by decide +kernel) dX8_init_20 ?_
    refine y_putf (i := 36) (fs := [.int 0, .int (-1), .int 0, .int 0, .null]) (fs1 := [.int 0, .int (-1), .int 0, .int 0, .null]) (sh1 := w_X8_36_s4 g sh) cx z_cl8 (j := 3) (by decide) tb_135 rfl rfl rfl rfl (by decide) rfl rfl rfl (Nat.le_of_ble_eq_true rfl) dX8_init_21 ?_
    refine y_aload_n cx rfl rfl dX8_init_24 ?_
    refine y_bipush (v := 60) cx (by decide +kernel) dX8_init_25 ?_
    refine y_newa_long (sh1 := w_X8_36_s5 g sh) cx tb_103 rfl (by decide +kernel) (by decide +kernel) (by decide) rfl rfl rfl (by decide) (by decide) rfl dX8_init_27 ?_
    refine y_putF (i := 36) (fs := [.int 0, .int (-1), .int 0, .int 0, .null]) (fs1 := [.int 0, .int (-1), .int 0, .int 0, .ref (z_ad g 37)]) (sh1 := w_X8_36_s6 g sh) cx z_cl8 (j := 4) (by decide) tb_136 rfl rfl ce'.2.2.1 rfl rfl rfl (by decide) rfl rfl rfl (Nat.le_of_ble_eq_true rfl) dX8_init_29 ?_
    exact y_ret cx ce' rfl dX8_init_32)
def w_X8_38_s1 (g : z_G) (sh : z_H) : z_H := z_u (sh) 38 (.inr (8, [.int 0, .int 0, .int 0, .int 0, .null]))
def w_X8_38_s2 (g : z_G) (sh : z_H) : z_H := z_u (w_X8_38_s1 g sh) 38 (.inr (8, [.int 0, .int (-1), .int 0, .int 0, .null]))
def w_X8_38_s3 (g : z_G) (sh : z_H) : z_H := z_u (w_X8_38_s2 g sh) 38 (.inr (8, [.int 0, .int (-1), .int 0, .int 0, .null]))
def w_X8_38_s4 (g : z_G) (sh : z_H) : z_H := z_u (w_X8_38_s3 g sh) 38 (.inr (8, [.int 0, .int (-1), .int 0, .int 0, .null]))
def w_X8_38_s5 (g : z_G) (sh : z_H) : z_H := z_u (w_X8_38_s4 g sh) 39 (.inl (z_ac g 1, 60, .inr (.inl (fun _ => 0))))
def w_X8_38_s6 (g : z_G) (sh : z_H) : z_H := z_u (w_X8_38_s5 g sh) 38 (.inr (8, [.int 0, .int (-1), .int 0, .int 0, .ref (z_ad g 39)]))
def w_X8_38 (g : z_G) (sh : z_H) : z_H := w_X8_38_s6 g sh
set_option maxHeartbeats 4000000 in
set_option maxRecDepth 100000 in
theorem i_X8_38 {g : z_G} {sh : z_H} (h0 : sh 38 = .inr (8, [.int 0, .int 0, .int 0, .int 0, .null])) : y_Ct g M_X8_init 1 1 60 39 40 [.ref (z_ad g 38)] sh (w_X8_38 g sh) :=
  y_Ct.of (by decide +kernel) rfl rfl (Nat.le_of_ble_eq_true rfl) (fun K cx ce' => by
    refine y_weak (L' := [some (.ref (z_ad g 38))]) (z_wk_s (z_wk_0)) ?_
    refine y_aload_n cx rfl rfl dX8_init_0 ?_
    refine y_objinit cx tb_131 tb_11 tb_12 (by decide) (Nat.le_of_ble_eq_true rfl) dX8_init_1 ?_
    refine y_aload_n cx rfl rfl dX8_init_4 ?_
    refine y_iconst (v := 0) cx (by decide +kernel) dX8_init_5 ?_
    refine y_putf (i := 38) (fs := [.int 0, .int 0, .int 0, .int 0, .null]) (fs1 := [.int 0, .int 0, .int 0, .int 0, .null]) (sh1 := w_X8_38_s1 g sh) cx z_cl8 (j := 0) (by decide) tb_132 rfl rfl rfl rfl (by decide) (Eq.trans (b := sh 38) rfl h0) rfl rfl (Nat.le_of_ble_eq_true rfl) dX8_init_6 ?_
    refine y_aload_n cx rfl rfl dX8_init_9 ?_
    refine y_iconst (v := (-1)) cx (by decide +kernel) dX8_init_10 ?_
    refine y_putf (i := 38) (fs := [.int 0, .int 0, .int 0, .int 0, .null]) (fs1 := [.int 0, .int (-1), .int 0, .int 0, .null]) (sh1 := w_X8_38_s2 g sh) cx z_cl8 (j := 1) (by decide) tb_133 rfl rfl rfl rfl (by decide) rfl rfl rfl (Nat.le_of_ble_eq_true rfl) dX8_init_11 ?_
    refine y_aload_n cx rfl rfl dX8_init_14 ?_
    refine y_iconst (v := 0) cx (by decide +kernel) dX8_init_15 ?_
    refine y_putf (i := 38) (fs := [.int 0, .int (-1), .int 0, .int 0, .null]) (fs1 := [.int 0, .int (-1), .int 0, .int 0, .null]) (sh1 := w_X8_38_s3 g sh) cx z_cl8 (j := 2) (by decide) tb_134 rfl rfl rfl rfl (by decide) rfl rfl rfl (Nat.le_of_ble_eq_true rfl) dX8_init_16 ?_
    refine y_aload_n cx rfl rfl dX8_init_19 ?_
    refine y_iconst (v := 0) cx (by decide +kernel) dX8_init_20 ?_
    refine y_putf (i := 38) (fs := [.int 0, .int (-1), .int 0, .int 0, .null]) (fs1 := [.int 0, .int (-1), .int 0, .int 0, .null]) (sh1 := w_X8_38_s4 g sh) cx z_cl8 (j := 3) (by decide) tb_135 rfl rfl rfl rfl (by decide) rfl rfl rfl (Nat.le_of_ble_eq_true rfl) dX8_init_21 ?_
    refine y_aload_n cx rfl rfl dX8_init_24 ?_
    refine y_bipush (v := 60) cx (by decide +kernel) dX8_init_25 ?_
    refine y_newa_long (sh1 := w_X8_38_s5 g sh) cx tb_103 rfl (by decide +kernel) (by decide +kernel) (by decide) rfl rfl rfl (by decide) (by decide) rfl dX8_init_27 ?_
    refine y_putF (i := 38) (fs := [.int 0, .int (-1), .int 0, .int 0, .null]) (fs1 := [.int 0, .int (-1), .int 0, .int 0, .ref (z_ad g 39)]) (sh1 := w_X8_38_s6 g sh) cx z_cl8 (j := 4) (by decide) tb_136 rfl rfl ce'.2.2.1 rfl rfl rfl (by decide) rfl rfl rfl (Nat.le_of_ble_eq_true rfl) dX8_init_29 ?_
    exact y_ret cx ce' rfl dX8_init_32)
def w_X8_40_s1 (g : z_G) (sh : z_H) : z_H := z_u (sh) 40 (.inr (8, [.int 0, .int 0, .int 0, .int 0, .null]))
def w_X8_40_s2 (g : z_G) (sh : z_H) : z_H := z_u (w_X8_40_s1 g sh) 40 (.inr (8, [.int 0, .int (-1), .int 0, .int 0, .null]))
def w_X8_40_s3 (g : z_G) (sh : z_H) : z_H := z_u (w_X8_40_s2 g sh) 40 (.inr (8, [.int 0, .int (-1), .int 0, .int 0, .null]))
def w_X8_40_s4 (g : z_G) (sh : z_H) : z_H := z_u (w_X8_40_s3 g sh) 40 (.inr (8, [.int 0, .int (-1), .int 0, .int 0, .null]))
def w_X8_40_s5 (g : z_G) (sh : z_H) : z_H := z_u (w_X8_40_s4 g sh) 41 (.inl (z_ac g 1, 60, .inr (.inl (fun _ => 0))))
def w_X8_40_s6 (g : z_G) (sh : z_H) : z_H := z_u (w_X8_40_s5 g sh) 40 (.inr (8, [.int 0, .int (-1), .int 0, .int 0, .ref (z_ad g 41)]))
def w_X8_40 (g : z_G) (sh : z_H) : z_H := w_X8_40_s6 g sh
set_option maxHeartbeats 4000000 in
set_option maxRecDepth 100000 in
theorem i_X8_40 {g : z_G} {sh : z_H} (h0 : sh 40 = .inr (8, [.int 0, .int 0, .int 0, .int 0, .null])) : y_Ct g M_X8_init 1 1 60 41 42 [.ref (z_ad g 40)] sh (w_X8_40 g sh) :=
  y_Ct.of (by decide +kernel) rfl rfl (Nat.le_of_ble_eq_true rfl) (fun K cx ce' => by
    refine y_weak (L' := [some (.ref (z_ad g 40))]) (z_wk_s (z_wk_0)) ?_
    refine y_aload_n cx rfl rfl dX8_init_0 ?_
    refine y_objinit cx tb_131 tb_11 tb_12 (by decide) (Nat.le_of_ble_eq_true rfl) dX8_init_1 ?_
    refine y_aload_n cx rfl rfl dX8_init_4 ?_
    refine y_iconst (v := 0) cx (by decide +kernel) dX8_init_5 ?_
    refine y_putf (i := 40) (fs := [.int 0, .int 0, .int 0, .int 0, .null]) (fs1 := [.int 0, .int 0, .int 0, .int 0, .null]) (sh1 := w_X8_40_s1 g sh) cx z_cl8 (j := 0) (by decide) tb_132 rfl rfl rfl rfl (by decide) (Eq.trans (b := sh 40) rfl h0) rfl rfl (Nat.le_of_ble_eq_true rfl) dX8_init_6 ?_
    refine y_aload_n cx rfl rfl dX8_init_9 ?_
    refine y_iconst (v := (-1)) cx (by decide +kernel) dX8_init_10 ?_
    refine y_putf (i := 40) (fs := [.int 0, .int 0, .int 0, .int 0, .null]) (fs1 := [.int 0, .int (-1), .int 0, .int 0, .null]) (sh1 := w_X8_40_s2 g sh) cx z_cl8 (j := 1) (by decide) tb_133 rfl rfl rfl rfl (by decide) rfl rfl rfl (Nat.le_of_ble_eq_true rfl) dX8_init_11 ?_
    refine y_aload_n cx rfl rfl dX8_init_14 ?_
    refine y_iconst (v := 0) cx (by decide +kernel) dX8_init_15 ?_
    refine y_putf (i := 40) (fs := [.int 0, .int (-1), .int 0, .int 0, .null]) (fs1 := [.int 0, .int (-1), .int 0, .int 0, .null]) (sh1 := w_X8_40_s3 g sh) cx z_cl8 (j := 2) (by decide) tb_134 rfl rfl rfl rfl (by decide) rfl rfl rfl (Nat.le_of_ble_eq_true rfl) dX8_init_16 ?_
    refine y_aload_n cx rfl rfl dX8_init_19 ?_
    refine y_iconst (v := 0) cx (by decide +kernel) dX8_init_20 ?_
    refine y_putf (i := 40) (fs := [.int 0, .int (-1), .int 0, .int 0, .null]) (fs1 := [.int 0, .int (-1), .int 0, .int 0, .null]) (sh1 := w_X8_40_s4 g sh) cx z_cl8 (j := 3) (by decide) tb_135 rfl rfl rfl rfl (by decide) rfl rfl rfl (Nat.le_of_ble_eq_true rfl) dX8_init_21 ?_
    refine y_aload_n cx rfl rfl dX8_init_24 ?_
    refine y_bipush (v := 60) cx (by decide +kernel) dX8_init_25 ?_
    refine y_newa_long (sh1 := w_X8_40_s5 g sh) cx tb_103 rfl (by decide +kernel) (by decide +kernel) (by decide) rfl rfl rfl (by decide) (by decide) rfl dX8_init_27 ?_
    refine y_putF (i := 40) (fs := [.int 0, .int (-1), .int 0, .int 0, .null]) (fs1 := [.int 0, .int (-1), .int 0, .int 0, .ref (z_ad g 41)]) (sh1 := w_X8_40_s6 g sh) cx z_cl8 (j := 4) (by decide) tb_136 rfl rfl ce'.2.2.1 rfl rfl rfl (by decide) rfl rfl rfl (Nat.le_of_ble_eq_true rfl) dX8_init_29 ?_
    exact y_ret cx ce' rfl dX8_init_32)
def w_X8_42_s1 (g : z_G) (sh : z_H) : z_H := z_u (sh) 42 (.inr (8, [.int 0, .int 0, .int 0, .int 0, .null]))
def w_X8_42_s2 (g : z_G) (sh : z_H) : z_H := z_u (w_X8_42_s1 g sh) 42 (.inr (8, [.int 0, .int (-1), .int 0, .int 0, .null]))
def w_X8_42_s3 (g : z_G) (sh : z_H) : z_H := z_u (w_X8_42_s2 g sh) 42 (.inr (8, [.int 0, .int (-1), .int 0, .int 0, .null]))
def w_X8_42_s4 (g : z_G) (sh : z_H) : z_H := z_u (w_X8_42_s3 g sh) 42 (.inr (8, [.int 0, .int (-1), .int 0, .int 0, .null]))
def w_X8_42_s5 (g : z_G) (sh : z_H) : z_H := z_u (w_X8_42_s4 g sh) 43 (.inl (z_ac g 1, 60, .inr (.inl (fun _ => 0))))
def w_X8_42_s6 (g : z_G) (sh : z_H) : z_H := z_u (w_X8_42_s5 g sh) 42 (.inr (8, [.int 0, .int (-1), .int 0, .int 0, .ref (z_ad g 43)]))
def w_X8_42 (g : z_G) (sh : z_H) : z_H := w_X8_42_s6 g sh
set_option maxHeartbeats 4000000 in
set_option maxRecDepth 100000 in
theorem i_X8_42 {g : z_G} {sh : z_H} (h0 : sh 42 = .inr (8, [.int 0, .int 0, .int 0, .int 0, .null])) : y_Ct g M_X8_init 1 1 60 43 44 [.ref (z_ad g 42)] sh (w_X8_42 g sh) :=
  y_Ct.of (by decide +kernel) rfl rfl (Nat.le_of_ble_eq_true rfl) (fun K cx ce' => by
    refine y_weak (L' := [some (.ref (z_ad g 42))]) (z_wk_s (z_wk_0)) ?_
    refine y_aload_n cx rfl rfl dX8_init_0 ?_
    refine y_objinit cx tb_131 tb_11 tb_12 (by decide) (Nat.le_of_ble_eq_true rfl) dX8_init_1 ?_
    refine y_aload_n cx rfl rfl dX8_init_4 ?_
    refine y_iconst (v := 0) cx (by decide +kernel) dX8_init_5 ?_
    refine y_putf (i := 42) (fs := [.int 0, .int 0, .int 0, .int 0, .null]) (fs1 := [.int 0, .int 0, .int 0, .int 0, .null]) (sh1 := w_X8_42_s1 g sh) cx z_cl8 (j := 0) (by decide) tb_132 rfl rfl rfl rfl (by decide) (Eq.trans (b := sh 42) rfl h0) rfl rfl (Nat.le_of_ble_eq_true rfl) dX8_init_6 ?_
    refine y_aload_n cx rfl rfl dX8_init_9 ?_
    refine y_iconst (v := (-1)) cx (by decide +kernel) dX8_init_10 ?_
    refine y_putf (i := 42) (fs := [.int 0, .int 0, .int 0, .int 0, .null]) (fs1 := [.int 0, .int (-1), .int 0, .int 0, .null]) (sh1 := w_X8_42_s2 g sh) cx z_cl8 (j := 1) (by decide) tb_133 rfl rfl rfl rfl (by decide) rfl rfl rfl (Nat.le_of_ble_eq_true rfl) dX8_init_11 ?_
    refine y_aload_n cx rfl rfl dX8_init_14 ?_
    refine y_iconst (v := 0) cx (by decide +kernel) dX8_init_15 ?_
    refine y_putf (i := 42) (fs := [.int 0, .int (-1), .int 0, .int 0, .null]) (fs1 := [.int 0, .int (-1), .int 0, .int 0, .null]) (sh1 := w_X8_42_s3 g sh) cx z_cl8 (j := 2) (by decide) tb_134 rfl rfl rfl rfl (by decide) rfl rfl rfl (Nat.le_of_ble_eq_true rfl) dX8_init_16 ?_
    refine y_aload_n cx rfl rfl dX8_init_19 ?_
    refine y_iconst (v := 0) cx (by decide +kernel) dX8_init_20 ?_
    refine y_putf (i := 42) (fs := [.int 0, .int (-1), .int 0, .int 0, .null]) (fs1 := [.int 0, .int (-1), .int 0, .int 0, .null]) (sh1 := w_X8_42_s4 g sh) cx z_cl8 (j := 3) (by decide) tb_135 rfl rfl rfl rfl (by decide) rfl rfl rfl (Nat.le_of_ble_eq_true rfl) dX8_init_21 ?_
    refine y_aload_n cx rfl rfl dX8_init_24 ?_
    refine y_bipush (v := 60) cx (by decide +kernel) dX8_init_25 ?_
    refine y_newa_long (sh1 := w_X8_42_s5 g sh) cx tb_103 rfl (by decide +kernel) (by decide +kernel) (by decide) rfl rfl rfl (by decide) (by decide) rfl dX8_init_27 ?_
    refine y_putF (i := 42) (fs := [.int 0, .int (-1), .int 0, .int 0, .null]) (fs1 := [.int 0, .int (-1), .int 0, .int 0, .ref (z_ad g 43)]) (sh1 := w_X8_42_s6 g sh) cx z_cl8 (j := 4) (by decide) tb_136 rfl rfl ce'.2.2.1 rfl rfl rfl (by decide) rfl rfl rfl (Nat.le_of_ble_eq_true rfl) dX8_init_29 ?_
    exact y_ret cx ce' rfl dX8_init_32)
def w_X8_44_s1 (g : z_G) (sh : z_H) : z_H := z_u (sh) 44 (.inr (8, [.int 0, .int 0, .int 0, .int 0, .null]))
def w_X8_44_s2 (g : z_G) (sh : z_H) : z_H := z_u (w_X8_44_s1 g sh) 44 (.inr (8, [.int 0, .int (-1), .int 0, .int 0, .null]))
def w_X8_44_s3 (g : z_G) (sh : z_H) : z_H := z_u (w_X8_44_s2 g sh) 44 (.inr (8, [.int 0, .int (-1), .int 0, .int 0, .null]))
def w_X8_44_s4 (g : z_G) (sh : z_H) : z_H := z_u (w_X8_44_s3 g sh) 44 (.inr (8, [.int 0, .int (-1), .int 0, .int 0, .null]))
def w_X8_44_s5 (g : z_G) (sh : z_H) : z_H := z_u (w_X8_44_s4 g sh) 45 (.inl (z_ac g 1, 60, .inr (.inl (fun _ => 0))))
def w_X8_44_s6 (g : z_G) (sh : z_H) : z_H := z_u (w_X8_44_s5 g sh) 44 (.inr (8, [.int 0, .int (-1), .int 0, .int 0, .ref (z_ad g 45)]))
def w_X8_44 (g : z_G) (sh : z_H) : z_H := w_X8_44_s6 g sh
set_option maxHeartbeats 4000000 in
set_option maxRecDepth 100000 in
theorem i_X8_44 {g : z_G} {sh : z_H} (h0 : sh 44 = .inr (8, [.int 0, .int 0, .int 0, .int 0, .null])) : y_Ct g M_X8_init 1 1 60 45 46 [.ref (z_ad g 44)] sh (w_X8_44 g sh) :=
  y_Ct.of (by decide +kernel) rfl rfl (Nat.le_of_ble_eq_true rfl) (fun K cx ce' => by
    refine y_weak (L' := [some (.ref (z_ad g 44))]) (z_wk_s (z_wk_0)) ?_
    refine y_aload_n cx rfl rfl dX8_init_0 ?_
    refine y_objinit cx tb_131 tb_11 tb_12 (by decide) (Nat.le_of_ble_eq_true rfl) dX8_init_1 ?_
    refine y_aload_n cx rfl rfl dX8_init_4 ?_
    refine y_iconst (v := 0) cx (by decide +kernel) dX8_init_5 ?_
    refine y_putf (i := 44) (fs := [.int 0, .int 0, .int 0, .int 0, .null]) (fs1 := [.int 0, .int 0, .int 0, .int 0, .null]) (sh1 := w_X8_44_s1 g sh) cx z_cl8 (j := 0) (by decide) tb_132 rfl rfl rfl rfl (by decide) (Eq.trans (b := sh 44) rfl h0) rfl rfl (Nat.le_of_ble_eq_true rfl) dX8_init_6 ?_
    refine y_aload_n cx rfl rfl dX8_init_9 ?_
    refine y_iconst (v := (-1)) cx (by decide +kernel) dX8_init_10 ?_
    refine y_putf (i := 44) (fs := [.int 0, .int 0, .int 0, .int 0, .null]) (fs1 := [.int 0, .int (-1), .int 0, .int 0, .null]) (sh1 := w_X8_44_s2 g sh) cx z_cl8 (j := 1) (by decide) tb_133 rfl rfl rfl rfl (by decide) rfl rfl rfl (Nat.le_of_ble_eq_true rfl) dX8_init_11 ?_
    refine y_aload_n cx rfl rfl dX8_init_14 ?_
    refine y_iconst (v := 0) cx (by decide +kernel) dX8_init_15 ?_
    refine y_putf (i := 44) (fs := [.int 0, .int (-1), .int 0, .int 0, .null]) (fs1 := [.int 0, .int (-1), .int 0, .int 0, .null]) (sh1 := w_X8_44_s3 g sh) cx z_cl8 (j := 2) (by decide) tb_134 rfl rfl rfl rfl (by decide) rfl rfl rfl (Nat.le_of_ble_eq_true rfl) dX8_init_16 ?_
    refine y_aload_n cx rfl rfl dX8_init_19 ?_
    refine y_iconst (v := 0) cx (by decide +kernel) dX8_init_20 ?_
    refine y_putf (i := 44) (fs := [.int 0, .int (-1), .int 0, .int 0, .null]) (fs1 := [.int 0, .int (-1), .int 0, .int 0, .null]) (sh1 := w_X8_44_s4 g sh) cx z_cl8 (j := 3) (by decide) tb_135 rfl rfl rfl rfl (by decide) rfl rfl rfl (Nat.le_of_ble_eq_true rfl) dX8_init_21 ?_
    refine y_aload_n cx rfl rfl dX8_init_24 ?_
    refine y_bipush (v := 60) cx (by decide +kernel) dX8_init_25 ?_
    refine y_newa_long (sh1 := w_X8_44_s5 g sh) cx tb_103 rfl (by decide +kernel) (by decide +kernel) (by decide) rfl rfl rfl (by decide) (by decide) rfl dX8_init_27 ?_
    refine y_putF (i := 44) (fs := [.int 0, .int (-1), .int 0, .int 0, .null]) (fs1 := [.int 0, .int (-1), .int 0, .int 0, .ref (z_ad g 45)]) (sh1 := w_X8_44_s6 g sh) cx z_cl8 (j := 4) (by decide) tb_136 rfl rfl ce'.2.2.1 rfl rfl rfl (by decide) rfl rfl rfl (Nat.le_of_ble_eq_true rfl) dX8_init_29 ?_
    exact y_ret cx ce' rfl dX8_init_32)
def w_X8_46_s1 (g : z_G) (sh : z_H) : z_H := z_u (sh) 46 (.inr (8, [.int 0, .int 0, .int 0, .int 0, .null]))
def w_X8_46_s2 (g : z_G) (sh : z_H) : z_H := z_u (w_X8_46_s1 g sh) 46 (.inr (8, [.int 0, .int (-1), .int 0, .int 0, .null]))
def w_X8_46_s3 (g : z_G) (sh : z_H) : z_H := z_u (w_X8_46_s2 g sh) 46 (.inr (8, [.int 0, .int (-1), .int 0, .int 0, .null]))
def w_X8_46_s4 (g : z_G) (sh : z_H) : z_H := z_u (w_X8_46_s3 g sh) 46 (.inr (8, [.int 0, .int (-1), .int 0, .int 0, .null]))
def w_X8_46_s5 (g : z_G) (sh : z_H) : z_H := z_u (w_X8_46_s4 g sh) 47 (.inl (z_ac g 1, 60, .inr (.inl (fun _ => 0))))
def w_X8_46_s6 (g : z_G) (sh : z_H) : z_H := z_u (w_X8_46_s5 g sh) 46 (.inr (8, [.int 0, .int (-1), .int 0, .int 0, .ref (z_ad g 47)]))
def w_X8_46 (g : z_G) (sh : z_H) : z_H := w_X8_46_s6 g sh
set_option maxHeartbeats 4000000 in
set_option maxRecDepth 100000 in
theorem i_X8_46 {g : z_G} {sh : z_H} (h0 : sh 46 = .inr (8, [.int 0, .int 0, .int 0, .int 0, .null])) : y_Ct g M_X8_init 1 1 60 47 48 [.ref (z_ad g 46)] sh (w_X8_46 g sh) :=
  y_Ct.of (by decide +kernel) rfl rfl (Nat.le_of_ble_eq_true rfl) (fun K cx ce' => by
    refine y_weak (L' := [some (.ref (z_ad g 46))]) (z_wk_s (z_wk_0)) ?_
    refine y_aload_n cx rfl rfl dX8_init_0 ?_
    refine y_objinit cx tb_131 tb_11 tb_12 (by decide) (Nat.le_of_ble_eq_true rfl) dX8_init_1 ?_
    refine y_aload_n cx rfl rfl dX8_init_4 ?_
    refine y_iconst (v := 0) cx (by decide +kernel) dX8_init_5 ?_
    refine y_putf (i := 46) (fs := [.int 0, .int 0, .int 0, .int 0, .null]) (fs1 := [.int 0, .int 0, .int 0, .int 0, .null]) (sh1 := w_X8_46_s1 g sh) cx z_cl8 (j := 0) (by decide) tb_132 rfl rfl rfl rfl (by decide) (Eq.trans (b := sh 46) rfl h0) rfl rfl (Nat.le_of_ble_eq_true rfl) dX8_init_6 ?_
    refine y_aload_n cx rfl rfl dX8_init_9 ?_
    refine y_iconst (v := (-1)) cx (by decide +kernel) dX8_init_10 ?_
    refine y_putf (i := 46) (fs := [.int 0, .int 0, .int 0, .int 0, .null]) (fs1 := [.int 0, .int (-1), .int 0, .int 0, .null]) (sh1 := w_X8_46_s2 g sh) cx z_cl8 (j := 1) (by decide) tb_133 rfl rfl rfl rfl (by decide) rfl rfl rfl (Nat.le_of_ble_eq_true rfl) dX8_init_11 ?_
    refine y_aload_n cx rfl rfl dX8_init_14 ?_
    refine y_iconst (v := 0) cx (by decide +kernel) dX8_init_15 ?_
    refine y_putf (i := 46) (fs := [.int 0, .int (-1), .int 0, .int 0, .null]) (fs1 := [.int 0, .int (-1), .int 0, .int 0, .null]) (sh1 := w_X8_46_s3 g sh) cx z_cl8 (j := 2) (by decide) tb_134 rfl rfl rfl rfl (by decide) rfl rfl rfl (Nat.le_of_ble_eq_true rfl) dX8_init_16 ?_
    refine y_aload_n cx rfl rfl dX8_init_19 ?_
    refine y_iconst (v := 0) cx (by decide +kernel) dX8_init_20 ?_
    refine y_putf (i := 46) (fs := [.int 0, .int (-1), .int 0, .int 0, .null]) (fs1 := [.int 0, .int (-1), .int 0, .int 0, .null]) (sh1 := w_X8_46_s4 g sh) cx z_cl8 (j := 3) (by decide) tb_135 rfl rfl rfl rfl (by decide) rfl rfl rfl (Nat.le_of_ble_eq_true rfl) dX8_init_21 ?_
    refine y_aload_n cx rfl rfl dX8_init_24 ?_
    refine y_bipush (v := 60) cx (by decide +kernel) dX8_init_25 ?_
    refine y_newa_long (sh1 := w_X8_46_s5 g sh) cx tb_103 rfl (by decide +kernel) (by decide +kernel) (by decide) rfl rfl rfl (by decide) (by decide) rfl dX8_init_27 ?_
    refine y_putF (i := 46) (fs := [.int 0, .int (-1), .int 0, .int 0, .null]) (fs1 := [.int 0, .int (-1), .int 0, .int 0, .ref (z_ad g 47)]) (sh1 := w_X8_46_s6 g sh) cx z_cl8 (j := 4) (by decide) tb_136 rfl rfl ce'.2.2.1 rfl rfl rfl (by decide) rfl rfl rfl (Nat.le_of_ble_eq_true rfl) dX8_init_29 ?_
    exact y_ret cx ce' rfl dX8_init_32)
def w_X10_0_s1 (g : z_G) (sh : z_H) : z_H := z_u (sh) 1 (.inr (9, [.null, .int 0]))
def w_X10_0_s2 (g : z_G) (sh : z_H) : z_H := w_X9_1 g (w_X10_0_s1 g sh)
def w_X10_0_s3 (g : z_G) (sh : z_H) : z_H := z_u (w_X10_0_s2 g sh) 0 (.inr (10, [.ref (z_ad g 1), .null, .null, .null, .int 0, .null, .null, .null, .null, .null, .null, .null]))
def w_X10_0_s4 (g : z_G) (sh : z_H) : z_H := z_u (w_X10_0_s3 g sh) 3 (.inr (0, [.null, .null, .null, .int 0, .int 0]))
def w_X10_0_s5 (g : z_G) (sh : z_H) : z_H := w_X0_3 g (w_X10_0_s4 g sh)
def w_X10_0_s6 (g : z_G) (sh : z_H) : z_H := z_u (w_X10_0_s5 g sh) 0 (.inr (10, [.ref (z_ad g 1), .ref (z_ad g 3), .null, .null, .int 0, .null, .null, .null, .null, .null, .null, .null]))
def w_X10_0_s7 (g : z_G) (sh : z_H) : z_H := z_u (w_X10_0_s6 g sh) 7 (.inr (1, [.null, .int 0, .int 0, .int 0, .null, .int 0, .int 0]))
def w_X10_0_s8 (g : z_G) (sh : z_H) : z_H := w_X1_7 g (w_X10_0_s7 g sh)
def w_X10_0_s9 (g : z_G) (sh : z_H) : z_H := z_u (w_X10_0_s8 g sh) 0 (.inr (10, [.ref (z_ad g 1), .ref (z_ad g 3), .ref (z_ad g 7), .null, .int 0, .null, .null, .null, .null, .null, .null, .null]))
def w_X10_0_s10 (g : z_G) (sh : z_H) : z_H := z_u (w_X10_0_s9 g sh) 10 (.inr (1, [.null, .int 0, .int 0, .int 0, .null, .int 0, .int 0]))
def w_X10_0_s11 (g : z_G) (sh : z_H) : z_H := w_X1_10 g (w_X10_0_s10 g sh)
def w_X10_0_s12 (g : z_G) (sh : z_H) : z_H := z_u (w_X10_0_s11 g sh) 0 (.inr (10, [.ref (z_ad g 1), .ref (z_ad g 3), .ref (z_ad g 7), .ref (z_ad g 10), .int 0, .null, .null, .null, .null, .null, .null, .null]))
def w_X10_0_s13 (g : z_G) (sh : z_H) : z_H := z_u (w_X10_0_s12 g sh) 0 (.inr (10, [.ref (z_ad g 1), .ref (z_ad g 3), .ref (z_ad g 7), .ref (z_ad g 10), .int 0, .null, .null, .null, .null, .null, .null, .null]))
def w_X10_0_s14 (g : z_G) (sh : z_H) : z_H := z_u (w_X10_0_s13 g sh) 13 (.inr (6, [.null, .int 0, .null, .int 0, .null, .int 0, .int 0]))
def w_X10_0_s15 (g : z_G) (sh : z_H) : z_H := w_X6_13 g (w_X10_0_s14 g sh)
def w_X10_0_s16 (g : z_G) (sh : z_H) : z_H := z_u (w_X10_0_s15 g sh) 0 (.inr (10, [.ref (z_ad g 1), .ref (z_ad g 3), .ref (z_ad g 7), .ref (z_ad g 10), .int 0, .ref (z_ad g 13), .null, .null, .null, .null, .null, .null]))
def w_X10_0_s17 (g : z_G) (sh : z_H) : z_H := z_u (w_X10_0_s16 g sh) 17 (.inr (4, [.long 0, .long 0]))
def w_X10_0_s18 (g : z_G) (sh : z_H) : z_H := w_X4_17 g (w_X10_0_s17 g sh)
def w_X10_0_s19 (g : z_G) (sh : z_H) : z_H := z_u (w_X10_0_s18 g sh) 0 (.inr (10, [.ref (z_ad g 1), .ref (z_ad g 3), .ref (z_ad g 7), .ref (z_ad g 10), .int 0, .ref (z_ad g 13), .ref (z_ad g 17), .null, .null, .null, .null, .null]))
def w_X10_0_s20 (g : z_G) (sh : z_H) : z_H := z_u (w_X10_0_s19 g sh) 18 (.inr (2, [.int 0, .null, .null, .null, .long 0, .long 0]))
def w_X10_0_s21 (g : z_G) (sh : z_H) : z_H := w_X2_18 g (w_X10_0_s20 g sh)
def w_X10_0_s22 (g : z_G) (sh : z_H) : z_H := z_u (w_X10_0_s21 g sh) 0 (.inr (10, [.ref (z_ad g 1), .ref (z_ad g 3), .ref (z_ad g 7), .ref (z_ad g 10), .int 0, .ref (z_ad g 13), .ref (z_ad g 17), .ref (z_ad g 18), .null, .null, .null, .null]))
def w_X10_0_s23 (g : z_G) (sh : z_H) : z_H := z_u (w_X10_0_s22 g sh) 28 (.inr (7, [.null, .null, .int 0, .int 0]))
def w_X10_0_s24 (g : z_G) (sh : z_H) : z_H := w_X7_28 g (w_X10_0_s23 g sh)
def w_X10_0_s25 (g : z_G) (sh : z_H) : z_H := z_u (w_X10_0_s24 g sh) 0 (.inr (10, [.ref (z_ad g 1), .ref (z_ad g 3), .ref (z_ad g 7), .ref (z_ad g 10), .int 0, .ref (z_ad g 13), .ref (z_ad g 17), .ref (z_ad g 18), .ref (z_ad g 28), .null, .null, .null]))
def w_X10_0_s26 (g : z_G) (sh : z_H) : z_H := z_u (w_X10_0_s25 g sh) 31 (.inr (3, [.int 0, .int 0, .int 0]))
def w_X10_0_s27 (g : z_G) (sh : z_H) : z_H := w_X3_31 g (w_X10_0_s26 g sh)
def w_X10_0_s28 (g : z_G) (sh : z_H) : z_H := z_u (w_X10_0_s27 g sh) 0 (.inr (10, [.ref (z_ad g 1), .ref (z_ad g 3), .ref (z_ad g 7), .ref (z_ad g 10), .int 0, .ref (z_ad g 13), .ref (z_ad g 17), .ref (z_ad g 18), .ref (z_ad g 28), .ref (z_ad g 31), .null, .null]))
def w_X10_0_s29 (g : z_G) (sh : z_H) : z_H := z_u (w_X10_0_s28 g sh) 32 (.inr (5, [.null, .int 0, .null, .int 0, .int 0, .int 0]))
def w_X10_0_s30 (g : z_G) (sh : z_H) : z_H := w_X5_32 g (w_X10_0_s29 g sh)
def w_X10_0_s31 (g : z_G) (sh : z_H) : z_H := z_u (w_X10_0_s30 g sh) 0 (.inr (10, [.ref (z_ad g 1), .ref (z_ad g 3), .ref (z_ad g 7), .ref (z_ad g 10), .int 0, .ref (z_ad g 13), .ref (z_ad g 17), .ref (z_ad g 18), .ref (z_ad g 28), .ref (z_ad g 31), .ref (z_ad g 32), .null]))
def w_X10_0_s32 (g : z_G) (sh : z_H) : z_H := z_u (w_X10_0_s31 g sh) 35 (.inl (z_ac g 4, 6, .inr (.inr (.inr (.inr (fun _ => none))))))
def w_X10_0_s33 (g : z_G) (sh : z_H) : z_H := z_u (w_X10_0_s32 g sh) 0 (.inr (10, [.ref (z_ad g 1), .ref (z_ad g 3), .ref (z_ad g 7), .ref (z_ad g 10), .int 0, .ref (z_ad g 13), .ref (z_ad g 17), .ref (z_ad g 18), .ref (z_ad g 28), .ref (z_ad g 31), .ref (z_ad g 32), .ref (z_ad g 35)]))
def w_X10_0_s34 (g : z_G) (sh : z_H) : z_H := z_u (w_X10_0_s33 g sh) 36 (.inr (8, [.int 0, .int 0, .int 0, .int 0, .null]))
def w_X10_0_s35 (g : z_G) (sh : z_H) : z_H := w_X8_36 g (w_X10_0_s34 g sh)
def wf_X10_0_1 (g : z_G) : Nat → Option Nat := va_up (fun _ => none) 0 (some (z_ad g 36))
def w_X10_0_s36 (g : z_G) (sh : z_H) : z_H := z_u (w_X10_0_s35 g sh) 35 (.inl (z_ac g 4, 6, .inr (.inr (.inr (.inr (wf_X10_0_1 g))))))
def w_X10_0_s37 (g : z_G) (sh : z_H) : z_H := z_u (w_X10_0_s36 g sh) 38 (.inr (8, [.int 0, .int 0, .int 0, .int 0, .null]))
def w_X10_0_s38 (g : z_G) (sh : z_H) : z_H := w_X8_38 g (w_X10_0_s37 g sh)
def wf_X10_0_2 (g : z_G) : Nat → Option Nat := va_up (wf_X10_0_1 g) 1 (some (z_ad g 38))
def w_X10_0_s39 (g : z_G) (sh : z_H) : z_H := z_u (w_X10_0_s38 g sh) 35 (.inl (z_ac g 4, 6, .inr (.inr (.inr (.inr (wf_X10_0_2 g))))))
def w_X10_0_s40 (g : z_G) (sh : z_H) : z_H := z_u (w_X10_0_s39 g sh) 40 (.inr (8, [.int 0, .int 0, .int 0, .int 0, .null]))
def w_X10_0_s41 (g : z_G) (sh : z_H) : z_H := w_X8_40 g (w_X10_0_s40 g sh)
def wf_X10_0_3 (g : z_G) : Nat → Option Nat := va_up (wf_X10_0_2 g) 2 (some (z_ad g 40))
def w_X10_0_s42 (g : z_G) (sh : z_H) : z_H := z_u (w_X10_0_s41 g sh) 35 (.inl (z_ac g 4, 6, .inr (.inr (.inr (.inr (wf_X10_0_3 g))))))
def w_X10_0_s43 (g : z_G) (sh : z_H) : z_H := z_u (w_X10_0_s42 g sh) 42 (.inr (8, [.int 0, .int 0, .int 0, .int 0, .null]))
def w_X10_0_s44 (g : z_G) (sh : z_H) : z_H := w_X8_42 g (w_X10_0_s43 g sh)
def wf_X10_0_4 (g : z_G) : Nat → Option Nat := va_up (wf_X10_0_3 g) 3 (some (z_ad g 42))
def w_X10_0_s45 (g : z_G) (sh : z_H) : z_H := z_u (w_X10_0_s44 g sh) 35 (.inl (z_ac g 4, 6, .inr (.inr (.inr (.inr (wf_X10_0_4 g))))))
def w_X10_0_s46 (g : z_G) (sh : z_H) : z_H := z_u (w_X10_0_s45 g sh) 44 (.inr (8, [.int 0, .int 0, .int 0, .int 0, .null]))
def w_X10_0_s47 (g : z_G) (sh : z_H) : z_H := w_X8_44 g (w_X10_0_s46 g sh)
def wf_X10_0_5 (g : z_G) : Nat → Option Nat := va_up (wf_X10_0_4 g) 4 (some (z_ad g 44))
def w_X10_0_s48 (g : z_G) (sh : z_H) : z_H := z_u (w_X10_0_s47 g sh) 35 (.inl (z_ac g 4, 6, .inr (.inr (.inr (.inr (wf_X10_0_5 g))))))
def w_X10_0_s49 (g : z_G) (sh : z_H) : z_H := z_u (w_X10_0_s48 g sh) 46 (.inr (8, [.int 0, .int 0, .int 0, .int 0, .null]))
def w_X10_0_s50 (g : z_G) (sh : z_H) : z_H := w_X8_46 g (w_X10_0_s49 g sh)
def wf_X10_0_6 (g : z_G) : Nat → Option Nat := va_up (wf_X10_0_5 g) 5 (some (z_ad g 46))
def w_X10_0_s51 (g : z_G) (sh : z_H) : z_H := z_u (w_X10_0_s50 g sh) 35 (.inl (z_ac g 4, 6, .inr (.inr (.inr (.inr (wf_X10_0_6 g))))))
def w_X10_0 (g : z_G) (sh : z_H) : z_H := w_X10_0_s51 g sh
set_option maxHeartbeats 4000000 in
set_option maxRecDepth 100000 in
theorem i_X10_0 {g : z_G} {sh : z_H} (h0 : sh 0 = .inr (10, [.null, .null, .null, .null, .int 0, .null, .null, .null, .null, .null, .null, .null])) : y_Ct g M_X10_init 3 47 1026 1 48 [.ref (z_ad g 0)] sh (w_X10_0 g sh) :=
  y_Ct.of (by decide +kernel) rfl rfl (Nat.le_of_ble_eq_true rfl) (fun K cx ce' => by
    refine y_weak (L' := [some (.ref (z_ad g 0)), none]) (z_wk_s (z_wk_e (z_wk_0))) ?_
    refine y_aload_n cx rfl rfl dX10_init_0 ?_
    refine y_objinit cx tb_10 tb_11 tb_12 (by decide) (Nat.le_of_ble_eq_true rfl) dX10_init_1 ?_
    refine y_aload_n cx rfl rfl dX10_init_4 ?_
    refine y_new (fs := [.null, .int 0]) (sh1 := w_X10_0_s1 g sh) cx z_cl9 tb_13 tb_14 tb_15 df_X9 rfl rfl rfl rfl (by decide) (by decide) rfl dX10_init_5 ?_
    refine y_dup cx rfl dX10_init_8 ?_
    refine y_call (sh1 := w_X10_0_s2 g sh) cx yo_X9 (Or.inl tb_55) (by decide) (Nat.le_of_ble_eq_true rfl) rfl rfl rfl (by decide) (by decide) dX10_init_9 (i_X9_1 (sh := w_X10_0_s1 g sh) rfl) ?_
    refine y_putF (i := 0) (fs := [.null, .null, .null, .null, .int 0, .null, .null, .null, .null, .null, .null, .null]) (fs1 := [.ref (z_ad g 1), .null, .null, .null, .int 0, .null, .null, .null, .null, .null, .null, .null]) (sh1 := w_X10_0_s3 g sh) cx z_cl10 (j := 0) (by decide) tb_16 rfl rfl ce'.2.2.1 rfl rfl rfl (by decide) (Eq.trans (b := sh 0) rfl h0) rfl rfl (Nat.le_of_ble_eq_true rfl) dX10_init_12 ?_
    refine y_aload_n cx rfl rfl dX10_init_15 ?_
    refine y_new (fs := [.null, .null, .null, .int 0, .int 0]) (sh1 := w_X10_0_s4 g sh) cx z_cl0 tb_17 tb_18 tb_19 df_X0 rfl rfl rfl rfl (by decide) (by decide) rfl dX10_init_16 ?_
    refine y_dup cx rfl dX10_init_19 ?_
    refine y_call (sh1 := w_X10_0_s5 g sh) cx yo_X0 (Or.inr ⟨"HasShut", List.mem_of_getElem? (i := 0) rfl⟩) (by decide) (Nat.le_of_ble_eq_true rfl) rfl rfl rfl (by decide) (by decide) dX10_init_20 (i_X0_3 (sh := w_X10_0_s4 g sh) rfl) ?_
    refine y_putF (i := 0) (fs := [.ref (z_ad g 1), .null, .null, .null, .int 0, .null, .null, .null, .null, .null, .null, .null]) (fs1 := [.ref (z_ad g 1), .ref (z_ad g 3), .null, .null, .int 0, .null, .null, .null, .null, .null, .null, .null]) (sh1 := w_X10_0_s6 g sh) cx z_cl10 (j := 1) (by decide) tb_20 rfl rfl ce'.2.2.1 rfl rfl rfl (by decide) rfl rfl rfl (Nat.le_of_ble_eq_true rfl) dX10_init_23 ?_
    refine y_aload_n cx rfl rfl dX10_init_26 ?_
    refine y_new (fs := [.null, .int 0, .int 0, .int 0, .null, .int 0, .int 0]) (sh1 := w_X10_0_s7 g sh) cx z_cl1 tb_21 tb_22 tb_23 df_X1 rfl rfl rfl rfl (by decide) (by decide) rfl dX10_init_27 ?_
    refine y_dup cx rfl dX10_init_30 ?_
    refine y_call (sh1 := w_X10_0_s8 g sh) cx yo_X1 (Or.inr ⟨"HasShut", List.mem_of_getElem? (i := 1) rfl⟩) (by decide) (Nat.le_of_ble_eq_true rfl) rfl rfl rfl (by decide) (by decide) dX10_init_31 (i_X1_7 (sh := w_X10_0_s7 g sh) rfl) ?_
    refine y_putF (i := 0) (fs := [.ref (z_ad g 1), .ref (z_ad g 3), .null, .null, .int 0, .null, .null, .null, .null, .null, .null, .null]) (fs1 := [.ref (z_ad g 1), .ref (z_ad g 3), .ref (z_ad g 7), .null, .int 0, .null, .null, .null, .null, .null, .null, .null]) (sh1 := w_X10_0_s9 g sh) cx z_cl10 (j := 2) (by decide) tb_24 rfl rfl ce'.2.2.1 rfl rfl rfl (by decide) rfl rfl rfl (Nat.le_of_ble_eq_true rfl) dX10_init_34 ?_
    refine y_aload_n cx rfl rfl dX10_init_37 ?_
    refine y_new (fs := [.null, .int 0, .int 0, .int 0, .null, .int 0, .int 0]) (sh1 := w_X10_0_s10 g sh) cx z_cl1 tb_21 tb_22 tb_23 df_X1 rfl rfl rfl rfl (by decide) (by decide) rfl dX10_init_38 ?_
    refine y_dup cx rfl dX10_init_41 ?_
    refine y_call (sh1 := w_X10_0_s11 g sh) cx yo_X1 (Or.inr ⟨"HasShut", List.mem_of_getElem? (i := 1) rfl⟩) (by decide) (Nat.le_of_ble_eq_true rfl) rfl rfl rfl (by decide) (by decide) dX10_init_42 (i_X1_10 (sh := w_X10_0_s10 g sh) rfl) ?_
    refine y_putF (i := 0) (fs := [.ref (z_ad g 1), .ref (z_ad g 3), .ref (z_ad g 7), .null, .int 0, .null, .null, .null, .null, .null, .null, .null]) (fs1 := [.ref (z_ad g 1), .ref (z_ad g 3), .ref (z_ad g 7), .ref (z_ad g 10), .int 0, .null, .null, .null, .null, .null, .null, .null]) (sh1 := w_X10_0_s12 g sh) cx z_cl10 (j := 3) (by decide) tb_25 rfl rfl ce'.2.2.1 rfl rfl rfl (by decide) rfl rfl rfl (Nat.le_of_ble_eq_true rfl) dX10_init_45 ?_
    refine y_aload_n cx rfl rfl dX10_init_48 ?_
    refine y_iconst (v := 0) cx (by decide +kernel) dX10_init_49 ?_
    refine y_putf (i := 0) (fs := [.ref (z_ad g 1), .ref (z_ad g 3), .ref (z_ad g 7), .ref (z_ad g 10), .int 0, .null, .null, .null, .null, .null, .null, .null]) (fs1 := [.ref (z_ad g 1), .ref (z_ad g 3), .ref (z_ad g 7), .ref (z_ad g 10), .int 0, .null, .null, .null, .null, .null, .null, .null]) (sh1 := w_X10_0_s13 g sh) cx z_cl10 (j := 4) (by decide) tb_26 rfl rfl rfl rfl (by decide) rfl rfl rfl (Nat.le_of_ble_eq_true rfl) dX10_init_50 ?_
    refine y_aload_n cx rfl rfl dX10_init_53 ?_
    refine y_new (fs := [.null, .int 0, .null, .int 0, .null, .int 0, .int 0]) (sh1 := w_X10_0_s14 g sh) cx z_cl6 tb_27 tb_28 tb_29 df_X6 rfl rfl rfl rfl (by decide) (by decide) rfl dX10_init_54 ?_
    refine y_dup cx rfl dX10_init_57 ?_
    refine y_call (sh1 := w_X10_0_s15 g sh) cx yo_X6 (Or.inr ⟨"HasShut", List.mem_of_getElem? (i := 2) rfl⟩) (by decide) (Nat.le_of_ble_eq_true rfl) rfl rfl rfl (by decide) (by decide) dX10_init_58 (i_X6_13 (sh := w_X10_0_s14 g sh) rfl) ?_
    refine y_putF (i := 0) (fs := [.ref (z_ad g 1), .ref (z_ad g 3), .ref (z_ad g 7), .ref (z_ad g 10), .int 0, .null, .null, .null, .null, .null, .null, .null]) (fs1 := [.ref (z_ad g 1), .ref (z_ad g 3), .ref (z_ad g 7), .ref (z_ad g 10), .int 0, .ref (z_ad g 13), .null, .null, .null, .null, .null, .null]) (sh1 := w_X10_0_s16 g sh) cx z_cl10 (j := 5) (by decide) tb_30 rfl rfl ce'.2.2.1 rfl rfl rfl (by decide) rfl rfl rfl (Nat.le_of_ble_eq_true rfl) dX10_init_61 ?_
    refine y_aload_n cx rfl rfl dX10_init_64 ?_
    refine y_new (fs := [.long 0, .long 0]) (sh1 := w_X10_0_s17 g sh) cx z_cl4 tb_31 tb_32 tb_33 df_X4 rfl rfl rfl rfl (by decide) (by decide) rfl dX10_init_65 ?_
    refine y_dup cx rfl dX10_init_68 ?_
    refine y_call (sh1 := w_X10_0_s18 g sh) cx yo_X4 (Or.inr ⟨"HasShut", List.mem_of_getElem? (i := 3) rfl⟩) (by decide) (Nat.le_of_ble_eq_true rfl) rfl rfl rfl (by decide) (by decide) dX10_init_69 (i_X4_17 (sh := w_X10_0_s17 g sh) rfl) ?_
    refine y_putF (i := 0) (fs := [.ref (z_ad g 1), .ref (z_ad g 3), .ref (z_ad g 7), .ref (z_ad g 10), .int 0, .ref (z_ad g 13), .null, .null, .null, .null, .null, .null]) (fs1 := [.ref (z_ad g 1), .ref (z_ad g 3), .ref (z_ad g 7), .ref (z_ad g 10), .int 0, .ref (z_ad g 13), .ref (z_ad g 17), .null, .null, .null, .null, .null]) (sh1 := w_X10_0_s19 g sh) cx z_cl10 (j := 6) (by decide) tb_34 rfl rfl ce'.2.2.1 rfl rfl rfl (by decide) rfl rfl rfl (Nat.le_of_ble_eq_true rfl) dX10_init_72 ?_
    refine y_aload_n cx rfl rfl dX10_init_75 ?_
    refine y_new (fs := [.int 0, .null, .null, .null, .long 0, .long 0]) (sh1 := w_X10_0_s20 g sh) cx z_cl2 tb_35 tb_36 tb_37 df_X2 rfl rfl rfl rfl (by decide) (by decide) rfl dX10_init_76 ?_
    refine y_dup cx rfl dX10_init_79 ?_
    refine y_call (sh1 := w_X10_0_s21 g sh) cx yo_X2 (Or.inl tb_95) (by decide) (Nat.le_of_ble_eq_true rfl) rfl rfl rfl (by decide) (by decide) dX10_init_80 (i_X2_18 (sh := w_X10_0_s20 g sh) rfl) ?_
    refine y_putF (i := 0) (fs := [.ref (z_ad g 1), .ref (z_ad g 3), .ref (z_ad g 7), .ref (z_ad g 10), .int 0, .ref (z_ad g 13), .ref (z_ad g 17), .null, .null, .null, .null, .null]) (fs1 := [.ref (z_ad g 1), .ref (z_ad g 3), .ref (z_ad g 7), .ref (z_ad g 10), .int 0, .ref (z_ad g 13), .ref (z_ad g 17), .ref (z_ad g 18), .null, .null, .null, .null]) (sh1 := w_X10_0_s22 g sh) cx z_cl10 (j := 7) (by decide) tb_38 rfl rfl ce'.2.2.1 rfl rfl rfl (by decide) rfl rfl rfl (Nat.le_of_ble_eq_true rfl) dX10_init_83 ?_
    refine y_aload_n cx rfl rfl dX10_init_86 ?_
    refine y_new (fs := [.null, .null, .int 0, .int 0]) (sh1 := w_X10_0_s23 g sh) cx z_cl7 tb_39 tb_40 tb_41 df_X7 rfl rfl rfl rfl (by decide) (by decide) rfl dX10_init_87 ?_
    refine y_dup cx rfl dX10_init_90 ?_
    refine y_call (sh1 := w_X10_0_s24 g sh) cx yo_X7 (Or.inr ⟨"HasShut", List.mem_of_getElem? (i := 4) rfl⟩) (by decide) (Nat.le_of_ble_eq_true rfl) rfl rfl rfl (by decide) (by decide) dX10_init_91 (i_X7_28 (sh := w_X10_0_s23 g sh) rfl) ?_
    refine y_putF (i := 0) (fs := [.ref (z_ad g 1), .ref (z_ad g 3), .ref (z_ad g 7), .ref (z_ad g 10), .int 0, .ref (z_ad g 13), .ref (z_ad g 17), .ref (z_ad g 18), .null, .null, .null, .null]) (fs1 := [.ref (z_ad g 1), .ref (z_ad g 3), .ref (z_ad g 7), .ref (z_ad g 10), .int 0, .ref (z_ad g 13), .ref (z_ad g 17), .ref (z_ad g 18), .ref (z_ad g 28), .null, .null, .null]) (sh1 := w_X10_0_s25 g sh) cx z_cl10 (j := 8) (by decide) tb_42 rfl rfl ce'.2.2.1 rfl rfl rfl (by decide) rfl rfl rfl (Nat.le_of_ble_eq_true rfl) dX10_init_94 ?_
    refine y_aload_n cx rfl rfl dX10_init_97 ?_
    refine y_new (fs := [.int 0, .int 0, .int 0]) (sh1 := w_X10_0_s26 g sh) cx z_cl3 tb_43 tb_44 tb_45 df_X3 rfl rfl rfl rfl (by decide) (by decide) rfl dX10_init_98 ?_
    refine y_dup cx rfl dX10_init_101 ?_
    refine y_call (sh1 := w_X10_0_s27 g sh) cx yo_X3 (Or.inr ⟨"HasShut", List.mem_of_getElem? (i := 5) rfl⟩) (by decide) (Nat.le_of_ble_eq_true rfl) rfl rfl rfl (by decide) (by decide) dX10_init_102 (i_X3_31 (sh := w_X10_0_s26 g sh) rfl) ?_
    refine y_putF (i := 0) (fs := [.ref (z_ad g 1), .ref (z_ad g 3), .ref (z_ad g 7), .ref (z_ad g 10), .int 0, .ref (z_ad g 13), .ref (z_ad g 17), .ref (z_ad g 18), .ref (z_ad g 28), .null, .null, .null]) (fs1 := [.ref (z_ad g 1), .ref (z_ad g 3), .ref (z_ad g 7), .ref (z_ad g 10), .int 0, .ref (z_ad g 13), .ref (z_ad g 17), .ref (z_ad g 18), .ref (z_ad g 28), .ref (z_ad g 31), .null, .null]) (sh1 := w_X10_0_s28 g sh) cx z_cl10 (j := 9) (by decide) tb_46 rfl rfl ce'.2.2.1 rfl rfl rfl (by decide) rfl rfl rfl (Nat.le_of_ble_eq_true rfl) dX10_init_105 ?_
    refine y_aload_n cx rfl rfl dX10_init_108 ?_
    refine y_new (fs := [.null, .int 0, .null, .int 0, .int 0, .int 0]) (sh1 := w_X10_0_s29 g sh) cx z_cl5 tb_47 tb_48 tb_49 df_X5 rfl rfl rfl rfl (by decide) (by decide) rfl dX10_init_109 ?_
    refine y_dup cx rfl dX10_init_112 ?_
    refine y_call (sh1 := w_X10_0_s30 g sh) cx yo_X5 (Or.inr ⟨"HasShut", List.mem_of_getElem? (i := 6) rfl⟩) (by decide) (Nat.le_of_ble_eq_true rfl) rfl rfl rfl (by decide) (by decide) dX10_init_113 (i_X5_32 (sh := w_X10_0_s29 g sh) rfl) ?_
    refine y_putF (i := 0) (fs := [.ref (z_ad g 1), .ref (z_ad g 3), .ref (z_ad g 7), .ref (z_ad g 10), .int 0, .ref (z_ad g 13), .ref (z_ad g 17), .ref (z_ad g 18), .ref (z_ad g 28), .ref (z_ad g 31), .null, .null]) (fs1 := [.ref (z_ad g 1), .ref (z_ad g 3), .ref (z_ad g 7), .ref (z_ad g 10), .int 0, .ref (z_ad g 13), .ref (z_ad g 17), .ref (z_ad g 18), .ref (z_ad g 28), .ref (z_ad g 31), .ref (z_ad g 32), .null]) (sh1 := w_X10_0_s31 g sh) cx z_cl10 (j := 10) (by decide) tb_50 rfl rfl ce'.2.2.1 rfl rfl rfl (by decide) rfl rfl rfl (Nat.le_of_ble_eq_true rfl) dX10_init_116 ?_
    refine y_aload_n cx rfl rfl dX10_init_119 ?_
    refine y_bipush (v := 6) cx (by decide +kernel) dX10_init_120 ?_
    refine y_anew_S (sh1 := w_X10_0_s32 g sh) cx tb_51 rfl (by decide +kernel) (by decide +kernel) (by decide) rfl rfl rfl (by decide) (by decide) rfl dX10_init_122 ?_
    refine y_putF (i := 0) (fs := [.ref (z_ad g 1), .ref (z_ad g 3), .ref (z_ad g 7), .ref (z_ad g 10), .int 0, .ref (z_ad g 13), .ref (z_ad g 17), .ref (z_ad g 18), .ref (z_ad g 28), .ref (z_ad g 31), .ref (z_ad g 32), .null]) (fs1 := [.ref (z_ad g 1), .ref (z_ad g 3), .ref (z_ad g 7), .ref (z_ad g 10), .int 0, .ref (z_ad g 13), .ref (z_ad g 17), .ref (z_ad g 18), .ref (z_ad g 28), .ref (z_ad g 31), .ref (z_ad g 32), .ref (z_ad g 35)]) (sh1 := w_X10_0_s33 g sh) cx z_cl10 (j := 11) (by decide) tb_52 rfl rfl ce'.2.2.1 rfl rfl rfl (by decide) rfl rfl rfl (Nat.le_of_ble_eq_true rfl) dX10_init_125 ?_
    refine y_iconst (v := 0) cx (by decide +kernel) dX10_init_128 ?_
    refine y_istore_n (L' := [some (.ref (z_ad g 0)), some (.int 0)]) cx rfl (by decide) rfl dX10_init_129 ?_
    refine y_iload_n cx rfl rfl dX10_init_130 ?_
    refine y_bipush (v := 6) cx (by decide +kernel) dX10_init_131 ?_
    refine y_ge_f (tgt := 155) cx (by decide +kernel) (by decide) dX10_init_133 ?_
    refine y_aload_n cx rfl rfl dX10_init_136 ?_
    refine y_getf (i := 0) (fs := [.ref (z_ad g 1), .ref (z_ad g 3), .ref (z_ad g 7), .ref (z_ad g 10), .int 0, .ref (z_ad g 13), .ref (z_ad g 17), .ref (z_ad g 18), .ref (z_ad g 28), .ref (z_ad g 31), .ref (z_ad g 32), .ref (z_ad g 35)]) (v := .ref (z_ad g 35)) cx z_cl10 (j := 11) (by decide) tb_52 rfl (by decide) rfl rfl dX10_init_137 ?_
    refine y_iload_n cx rfl rfl dX10_init_140 ?_
    refine y_new (fs := [.int 0, .int 0, .int 0, .int 0, .null]) (sh1 := w_X10_0_s34 g sh) cx z_cl8 tb_51 tb_53 tb_54 df_X8 rfl rfl rfl rfl (by decide) (by decide) rfl dX10_init_141 ?_
    refine y_dup cx rfl dX10_init_144 ?_
    refine y_call (sh1 := w_X10_0_s35 g sh) cx yo_X8 (Or.inr ⟨"HasShut", List.mem_of_getElem? (i := 7) rfl⟩) (by decide) (Nat.le_of_ble_eq_true rfl) rfl rfl rfl (by decide) (by decide) dX10_init_145 (i_X8_36 (sh := w_X10_0_s34 g sh) rfl) ?_
    refine y_aast_S (q := 35) (n := 6) (m := 0) (v := 36) (vs := [.int 0, .int (-1), .int 0, .int 0, .ref (z_ad g 37)]) (f := (fun _ => none)) (f1 := (wf_X10_0_1 g)) (sh1 := w_X10_0_s36 g sh) cx (by decide) rfl (by decide) rfl (vp_in_lit (by decide +kernel)) (by decide +kernel) rfl rfl dX10_init_148 ?_
    refine y_iinc (c := 1) (L' := [some (.ref (z_ad g 0)), some (.int 1)]) cx rfl (by decide +kernel) (by decide) rfl dX10_init_149 ?_
    refine y_goto (tgt := 130) cx (by decide) dX10_init_152 ?_
    refine y_iload_n cx rfl rfl dX10_init_130 ?_
    refine y_bipush (v := 6) cx (by decide +kernel) dX10_init_131 ?_
    refine y_ge_f (tgt := 155) cx (by decide +kernel) (by decide) dX10_init_133 ?_
    refine y_aload_n cx rfl rfl dX10_init_136 ?_
    refine y_getf (i := 0) (fs := [.ref (z_ad g 1), .ref (z_ad g 3), .ref (z_ad g 7), .ref (z_ad g 10), .int 0, .ref (z_ad g 13), .ref (z_ad g 17), .ref (z_ad g 18), .ref (z_ad g 28), .ref (z_ad g 31), .ref (z_ad g 32), .ref (z_ad g 35)]) (v := .ref (z_ad g 35)) cx z_cl10 (j := 11) (by decide) tb_52 rfl (by decide) rfl rfl dX10_init_137 ?_
    refine y_iload_n cx rfl rfl dX10_init_140 ?_
    refine y_new (fs := [.int 0, .int 0, .int 0, .int 0, .null]) (sh1 := w_X10_0_s37 g sh) cx z_cl8 tb_51 tb_53 tb_54 df_X8 rfl rfl rfl rfl (by decide) (by decide) rfl dX10_init_141 ?_
    refine y_dup cx rfl dX10_init_144 ?_
    refine y_call (sh1 := w_X10_0_s38 g sh) cx yo_X8 (Or.inr ⟨"HasShut", List.mem_of_getElem? (i := 7) rfl⟩) (by decide) (Nat.le_of_ble_eq_true rfl) rfl rfl rfl (by decide) (by decide) dX10_init_145 (i_X8_38 (sh := w_X10_0_s37 g sh) rfl) ?_
    refine y_aast_S (q := 35) (n := 6) (m := 1) (v := 38) (vs := [.int 0, .int (-1), .int 0, .int 0, .ref (z_ad g 39)]) (f := (wf_X10_0_1 g)) (f1 := (wf_X10_0_2 g)) (sh1 := w_X10_0_s39 g sh) cx (by decide) rfl (by decide) rfl (vp_in_lit (by decide +kernel)) (by decide +kernel) rfl rfl dX10_init_148 ?_
    refine y_iinc (c := 2) (L' := [some (.ref (z_ad g 0)), some (.int 2)]) cx rfl (by decide +kernel) (by decide) rfl dX10_init_149 ?_
    refine y_goto (tgt := 130) cx (by decide) dX10_init_152 ?_
    refine y_iload_n cx rfl rfl dX10_init_130 ?_
    refine y_bipush (v := 6) cx (by decide +kernel) dX10_init_131 ?_
    refine y_ge_f (tgt := 155) cx (by decide +kernel) (by decide) dX10_init_133 ?_
    refine y_aload_n cx rfl rfl dX10_init_136 ?_
    refine y_getf (i := 0) (fs := [.ref (z_ad g 1), .ref (z_ad g 3), .ref (z_ad g 7), .ref (z_ad g 10), .int 0, .ref (z_ad g 13), .ref (z_ad g 17), .ref (z_ad g 18), .ref (z_ad g 28), .ref (z_ad g 31), .ref (z_ad g 32), .ref (z_ad g 35)]) (v := .ref (z_ad g 35)) cx z_cl10 (j := 11) (by decide) tb_52 rfl (by decide) rfl rfl dX10_init_137 ?_
    refine y_iload_n cx rfl rfl dX10_init_140 ?_
    refine y_new (fs := [.int 0, .int 0, .int 0, .int 0, .null]) (sh1 := w_X10_0_s40 g sh) cx z_cl8 tb_51 tb_53 tb_54 df_X8 rfl rfl rfl rfl (by decide) (by decide) rfl dX10_init_141 ?_
    refine y_dup cx rfl dX10_init_144 ?_
    refine y_call (sh1 := w_X10_0_s41 g sh) cx yo_X8 (Or.inr ⟨"HasShut", List.mem_of_getElem? (i := 7) rfl⟩) (by decide) (Nat.le_of_ble_eq_true rfl) rfl rfl rfl (by decide) (by decide) dX10_init_145 (i_X8_40 (sh := w_X10_0_s40 g sh) rfl) ?_
    refine y_aast_S (q := 35) (n := 6) (m := 2) (v := 40) (vs := [.int 0, .int (-1), .int 0, .int 0, .ref (z_ad g 41)]) (f := (wf_X10_0_2 g)) (f1 := (wf_X10_0_3 g)) (sh1 := w_X10_0_s42 g sh) cx (by decide) rfl (by decide) rfl (vp_in_lit (by decide +kernel)) (by decide +kernel) rfl rfl dX10_init_148 ?_
    refine y_iinc (c := 3) (L' := [some (.ref (z_ad g 0)), some (.int 3)]) cx rfl (by decide +kernel) (by decide) rfl dX10_init_149 ?_
    refine y_goto (tgt := 130) cx (by decide) dX10_init_152 ?_
    refine y_iload_n cx rfl rfl dX10_init_130 ?_
    refine y_bipush (v := 6) cx (by decide +kernel) dX10_init_131 ?_
    refine y_ge_f (tgt := 155) cx (by decide +kernel) (by decide) dX10_init_133 ?_
    refine y_aload_n cx rfl rfl dX10_init_136 ?_
    refine y_getf (i := 0) (fs := [.ref (z_ad g 1), .ref (z_ad g 3), .ref (z_ad g 7), .ref (z_ad g 10), .int 0, .ref (z_ad g 13), .ref (z_ad g 17), .ref (z_ad g 18), .ref (z_ad g 28), .ref (z_ad g 31), .ref (z_ad g 32), .ref (z_ad g 35)]) (v := .ref (z_ad g 35)) cx z_cl10 (j := 11) (by decide) tb_52 rfl (by decide) rfl rfl dX10_init_137 ?_
    refine y_iload_n cx rfl rfl dX10_init_140 ?_
    refine y_new (fs := [.int 0, .int 0, .int 0, .int 0, .null]) (sh1 := w_X10_0_s43 g sh) cx z_cl8 tb_51 tb_53 tb_54 df_X8 rfl rfl rfl rfl (by decide) (by decide) rfl dX10_init_141 ?_
    refine y_dup cx rfl dX10_init_144 ?_
    refine y_call (sh1 := w_X10_0_s44 g sh) cx yo_X8 (Or.inr ⟨"HasShut", List.mem_of_getElem? (i := 7) rfl⟩) (by decide) (Nat.le_of_ble_eq_true rfl) rfl rfl rfl (by decide) (by decide) dX10_init_145 (i_X8_42 (sh := w_X10_0_s43 g sh) rfl) ?_
    refine y_aast_S (q := 35) (n := 6) (m := 3) (v := 42) (vs := [.int 0, .int (-1), .int 0, .int 0, .ref (z_ad g 43)]) (f := (wf_X10_0_3 g)) (f1 := (wf_X10_0_4 g)) (sh1 := w_X10_0_s45 g sh) cx (by decide) rfl (by decide) rfl (vp_in_lit (by decide +kernel)) (by decide +kernel) rfl rfl dX10_init_148 ?_
    refine y_iinc (c := 4) (L' := [some (.ref (z_ad g 0)), some (.int 4)]) cx rfl (by decide +kernel) (by decide) rfl dX10_init_149 ?_
    refine y_goto (tgt := 130) cx (by decide) dX10_init_152 ?_
    refine y_iload_n cx rfl rfl dX10_init_130 ?_
    refine y_bipush (v := 6) cx (by decide +kernel) dX10_init_131 ?_
    refine y_ge_f (tgt := 155) cx (by decide +kernel) (by decide) dX10_init_133 ?_
    refine y_aload_n cx rfl rfl dX10_init_136 ?_
    refine y_getf (i := 0) (fs := [.ref (z_ad g 1), .ref (z_ad g 3), .ref (z_ad g 7), .ref (z_ad g 10), .int 0, .ref (z_ad g 13), .ref (z_ad g 17), .ref (z_ad g 18), .ref (z_ad g 28), .ref (z_ad g 31), .ref (z_ad g 32), .ref (z_ad g 35)]) (v := .ref (z_ad g 35)) cx z_cl10 (j := 11) (by decide) tb_52 rfl (by decide) rfl rfl dX10_init_137 ?_
    refine y_iload_n cx rfl rfl dX10_init_140 ?_
    refine y_new (fs := [.int 0, .int 0, .int 0, .int 0, .null]) (sh1 := w_X10_0_s46 g sh) cx z_cl8 tb_51 tb_53 tb_54 df_X8 rfl rfl rfl rfl (by decide) (by decide) rfl dX10_init_141 ?_
    refine y_dup cx rfl dX10_init_144 ?_
    refine y_call (sh1 := w_X10_0_s47 g sh) cx yo_X8 (Or.inr ⟨"HasShut", List.mem_of_getElem? (i := 7) rfl⟩) (by decide) (Nat.le_of_ble_eq_true rfl) rfl rfl rfl (by decide) (by decide) dX10_init_145 (i_X8_44 (sh := w_X10_0_s46 g sh) rfl) ?_
    refine y_aast_S (q := 35) (n := 6) (m := 4) (v := 44) (vs := [.int 0, .int (-1), .int 0, .int 0, .ref (z_ad g 45)]) (f := (wf_X10_0_4 g)) (f1 := (wf_X10_0_5 g)) (sh1 := w_X10_0_s48 g sh) cx (by decide) rfl (by decide) rfl (vp_in_lit (by decide +kernel)) (by decide +kernel) rfl rfl dX10_init_148 ?_
    refine y_iinc (c := 5) (L' := [some (.ref (z_ad g 0)), some (.int 5)]) cx rfl (by decide +kernel) (by decide) rfl dX10_init_149 ?_
    refine y_goto (tgt := 130) cx (by decide) dX10_init_152 ?_
    refine y_iload_n cx rfl rfl dX10_init_130 ?_
    refine y_bipush (v := 6) cx (by decide +kernel) dX10_init_131 ?_
    refine y_ge_f (tgt := 155) cx (by decide +kernel) (by decide) dX10_init_133 ?_
    refine y_aload_n cx rfl rfl dX10_init_136 ?_
    refine y_getf (i := 0) (fs := [.ref (z_ad g 1), .ref (z_ad g 3), .ref (z_ad g 7), .ref (z_ad g 10), .int 0, .ref (z_ad g 13), .ref (z_ad g 17), .ref (z_ad g 18), .ref (z_ad g 28), .ref (z_ad g 31), .ref (z_ad g 32), .ref (z_ad g 35)]) (v := .ref (z_ad g 35)) cx z_cl10 (j := 11) (by decide) tb_52 rfl (by decide) rfl rfl dX10_init_137 ?_
    refine y_iload_n cx rfl rfl dX10_init_140 ?_
    refine y_new (fs := [.int 0, .int 0, .int 0, .int 0, .null]) (sh1 := w_X10_0_s49 g sh) cx z_cl8 tb_51 tb_53 tb_54 df_X8 rfl rfl rfl rfl (by decide) (by decide) rfl dX10_init_141 ?_
    refine y_dup cx rfl dX10_init_144 ?_
    refine y_call (sh1 := w_X10_0_s50 g sh) cx yo_X8 (Or.inr ⟨"HasShut", List.mem_of_getElem? (i := 7) rfl⟩) (by decide) (Nat.le_of_ble_eq_true rfl) rfl rfl rfl (by decide) (by decide) dX10_init_145 (i_X8_46 (sh := w_X10_0_s49 g sh) rfl) ?_
    refine y_aast_S (q := 35) (n := 6) (m := 5) (v := 46) (vs := [.int 0, .int (-1), .int 0, .int 0, .ref (z_ad g 47)]) (f := (wf_X10_0_5 g)) (f1 := (wf_X10_0_6 g)) (sh1 := w_X10_0_s51 g sh) cx (by decide) rfl (by decide) rfl (vp_in_lit (by decide +kernel)) (by decide +kernel) rfl rfl dX10_init_148 ?_
    refine y_iinc (c := 6) (L' := [some (.ref (z_ad g 0)), some (.int 6)]) cx rfl (by decide +kernel) (by decide) rfl dX10_init_149 ?_
    refine y_goto (tgt := 130) cx (by decide) dX10_init_152 ?_
    refine y_iload_n cx rfl rfl dX10_init_130 ?_
    refine y_bipush (v := 6) cx (by decide +kernel) dX10_init_131 ?_
    refine y_ge_t (tgt := 155) cx (by decide +kernel) (by decide) dX10_init_133 ?_
    exact y_ret cx ce' rfl dX10_init_155)
def w_X11_48_s1 (g : z_G) (sh : z_H) : z_H := z_u (sh) 49 (.inl (z_ac g 0, 75, .inl (fun _ => 0)))
def w_X11_48_s2 (g : z_G) (sh : z_H) : z_H := z_u (w_X11_48_s1 g sh) 48 (.inr (11, [.ref (z_ad g 49), .null, .null, .null, .int 0, .int 0, .int 0, .null, .null, .int 0, .int 0, .long 0, .long 0, .null, .int 0, .null, .int 0, .int 0, .int 0, .int 0, .int 0, .int 0, .null, .null, .null, .long 0, .null, .null, .int 0, .int 0, .int 0, .int 0, .null, .int 0, .int 0, .null, .int 0, .null, .null, .int 0, .int 0, .int 0, .null, .null, .null, .null]))
def w_X11_48_s3 (g : z_G) (sh : z_H) : z_H := z_u (w_X11_48_s2 g sh) 50 (.inl (z_ac g 0, 40, .inl (fun _ => 0)))
def w_X11_48_s4 (g : z_G) (sh : z_H) : z_H := z_u (w_X11_48_s3 g sh) 48 (.inr (11, [.ref (z_ad g 49), .ref (z_ad g 50), .null, .null, .int 0, .int 0, .int 0, .null, .null, .int 0, .int 0, .long 0, .long 0, .null, .int 0, .null, .int 0, .int 0, .int 0, .int 0, .int 0, .int 0, .null, .null, .null, .long 0, .null, .null, .int 0, .int 0, .int 0, .int 0, .null, .int 0, .int 0, .null, .int 0, .null, .null, .int 0, .int 0, .int 0, .null, .null, .null, .null]))
def w_X11_48_s5 (g : z_G) (sh : z_H) : z_H := z_u (w_X11_48_s4 g sh) 51 (.inl (z_ac g 0, 40, .inl (fun _ => 0)))
def w_X11_48_s6 (g : z_G) (sh : z_H) : z_H := z_u (w_X11_48_s5 g sh) 48 (.inr (11, [.ref (z_ad g 49), .ref (z_ad g 50), .ref (z_ad g 51), .null, .int 0, .int 0, .int 0, .null, .null, .int 0, .int 0, .long 0, .long 0, .null, .int 0, .null, .int 0, .int 0, .int 0, .int 0, .int 0, .int 0, .null, .null, .null, .long 0, .null, .null, .int 0, .int 0, .int 0, .int 0, .null, .int 0, .int 0, .null, .int 0, .null, .null, .int 0, .int 0, .int 0, .null, .null, .null, .null]))
def w_X11_48_s7 (g : z_G) (sh : z_H) : z_H := z_u (w_X11_48_s6 g sh) 52 (.inl (z_ac g 0, 40, .inl (fun _ => 0)))
def w_X11_48_s8 (g : z_G) (sh : z_H) : z_H := z_u (w_X11_48_s7 g sh) 48 (.inr (11, [.ref (z_ad g 49), .ref (z_ad g 50), .ref (z_ad g 51), .ref (z_ad g 52), .int 0, .int 0, .int 0, .null, .null, .int 0, .int 0, .long 0, .long 0, .null, .int 0, .null, .int 0, .int 0, .int 0, .int 0, .int 0, .int 0, .null, .null, .null, .long 0, .null, .null, .int 0, .int 0, .int 0, .int 0, .null, .int 0, .int 0, .null, .int 0, .null, .null, .int 0, .int 0, .int 0, .null, .null, .null, .null]))
def w_X11_48_s9 (g : z_G) (sh : z_H) : z_H := z_u (w_X11_48_s8 g sh) 53 (.inl (z_ac g 0, 6, .inl (fun _ => 0)))
def w_X11_48_s10 (g : z_G) (sh : z_H) : z_H := z_u (w_X11_48_s9 g sh) 48 (.inr (11, [.ref (z_ad g 49), .ref (z_ad g 50), .ref (z_ad g 51), .ref (z_ad g 52), .int 0, .int 0, .int 0, .ref (z_ad g 53), .null, .int 0, .int 0, .long 0, .long 0, .null, .int 0, .null, .int 0, .int 0, .int 0, .int 0, .int 0, .int 0, .null, .null, .null, .long 0, .null, .null, .int 0, .int 0, .int 0, .int 0, .null, .int 0, .int 0, .null, .int 0, .null, .null, .int 0, .int 0, .int 0, .null, .null, .null, .null]))
def w_X11_48_s11 (g : z_G) (sh : z_H) : z_H := z_u (w_X11_48_s10 g sh) 54 (.inl (z_ac g 2, 6, .inl (fun _ => 0)))
def w_X11_48_s12 (g : z_G) (sh : z_H) : z_H := z_u (w_X11_48_s11 g sh) 48 (.inr (11, [.ref (z_ad g 49), .ref (z_ad g 50), .ref (z_ad g 51), .ref (z_ad g 52), .int 0, .int 0, .int 0, .ref (z_ad g 53), .ref (z_ad g 54), .int 0, .int 0, .long 0, .long 0, .null, .int 0, .null, .int 0, .int 0, .int 0, .int 0, .int 0, .int 0, .null, .null, .null, .long 0, .null, .null, .int 0, .int 0, .int 0, .int 0, .null, .int 0, .int 0, .null, .int 0, .null, .null, .int 0, .int 0, .int 0, .null, .null, .null, .null]))
def w_X11_48_s13 (g : z_G) (sh : z_H) : z_H := z_u (w_X11_48_s12 g sh) 55 (.inl (z_ac g 0, 120, .inl (fun _ => 0)))
def w_X11_48_s14 (g : z_G) (sh : z_H) : z_H := z_u (w_X11_48_s13 g sh) 48 (.inr (11, [.ref (z_ad g 49), .ref (z_ad g 50), .ref (z_ad g 51), .ref (z_ad g 52), .int 0, .int 0, .int 0, .ref (z_ad g 53), .ref (z_ad g 54), .int 0, .int 0, .long 0, .long 0, .ref (z_ad g 55), .int 0, .null, .int 0, .int 0, .int 0, .int 0, .int 0, .int 0, .null, .null, .null, .long 0, .null, .null, .int 0, .int 0, .int 0, .int 0, .null, .int 0, .int 0, .null, .int 0, .null, .null, .int 0, .int 0, .int 0, .null, .null, .null, .null]))
def w_X11_48_s15 (g : z_G) (sh : z_H) : z_H := z_u (w_X11_48_s14 g sh) 56 (.inl (z_ac g 0, 120, .inl (fun _ => 0)))
def w_X11_48_s16 (g : z_G) (sh : z_H) : z_H := z_u (w_X11_48_s15 g sh) 48 (.inr (11, [.ref (z_ad g 49), .ref (z_ad g 50), .ref (z_ad g 51), .ref (z_ad g 52), .int 0, .int 0, .int 0, .ref (z_ad g 53), .ref (z_ad g 54), .int 0, .int 0, .long 0, .long 0, .ref (z_ad g 55), .int 0, .ref (z_ad g 56), .int 0, .int 0, .int 0, .int 0, .int 0, .int 0, .null, .null, .null, .long 0, .null, .null, .int 0, .int 0, .int 0, .int 0, .null, .int 0, .int 0, .null, .int 0, .null, .null, .int 0, .int 0, .int 0, .null, .null, .null, .null]))
def w_X11_48_s17 (g : z_G) (sh : z_H) : z_H := z_u (w_X11_48_s16 g sh) 57 (.inl (z_ac g 0, 6, .inl (fun _ => 0)))
def w_X11_48_s18 (g : z_G) (sh : z_H) : z_H := z_u (w_X11_48_s17 g sh) 48 (.inr (11, [.ref (z_ad g 49), .ref (z_ad g 50), .ref (z_ad g 51), .ref (z_ad g 52), .int 0, .int 0, .int 0, .ref (z_ad g 53), .ref (z_ad g 54), .int 0, .int 0, .long 0, .long 0, .ref (z_ad g 55), .int 0, .ref (z_ad g 56), .int 0, .int 0, .int 0, .int 0, .int 0, .int 0, .ref (z_ad g 57), .null, .null, .long 0, .null, .null, .int 0, .int 0, .int 0, .int 0, .null, .int 0, .int 0, .null, .int 0, .null, .null, .int 0, .int 0, .int 0, .null, .null, .null, .null]))
def w_X11_48_s19 (g : z_G) (sh : z_H) : z_H := z_u (w_X11_48_s18 g sh) 58 (.inl (z_ac g 1, 6, .inr (.inl (fun _ => 0))))
def w_X11_48_s20 (g : z_G) (sh : z_H) : z_H := z_u (w_X11_48_s19 g sh) 48 (.inr (11, [.ref (z_ad g 49), .ref (z_ad g 50), .ref (z_ad g 51), .ref (z_ad g 52), .int 0, .int 0, .int 0, .ref (z_ad g 53), .ref (z_ad g 54), .int 0, .int 0, .long 0, .long 0, .ref (z_ad g 55), .int 0, .ref (z_ad g 56), .int 0, .int 0, .int 0, .int 0, .int 0, .int 0, .ref (z_ad g 57), .ref (z_ad g 58), .null, .long 0, .null, .null, .int 0, .int 0, .int 0, .int 0, .null, .int 0, .int 0, .null, .int 0, .null, .null, .int 0, .int 0, .int 0, .null, .null, .null, .null]))
def w_X11_48_s21 (g : z_G) (sh : z_H) : z_H := z_u (w_X11_48_s20 g sh) 59 (.inl (z_ac g 1, 6, .inr (.inl (fun _ => 0))))
def w_X11_48_s22 (g : z_G) (sh : z_H) : z_H := z_u (w_X11_48_s21 g sh) 48 (.inr (11, [.ref (z_ad g 49), .ref (z_ad g 50), .ref (z_ad g 51), .ref (z_ad g 52), .int 0, .int 0, .int 0, .ref (z_ad g 53), .ref (z_ad g 54), .int 0, .int 0, .long 0, .long 0, .ref (z_ad g 55), .int 0, .ref (z_ad g 56), .int 0, .int 0, .int 0, .int 0, .int 0, .int 0, .ref (z_ad g 57), .ref (z_ad g 58), .ref (z_ad g 59), .long 0, .null, .null, .int 0, .int 0, .int 0, .int 0, .null, .int 0, .int 0, .null, .int 0, .null, .null, .int 0, .int 0, .int 0, .null, .null, .null, .null]))
def w_X11_48_s23 (g : z_G) (sh : z_H) : z_H := z_u (w_X11_48_s22 g sh) 60 (.inl (z_ac g 0, 6, .inl (fun _ => 0)))
def w_X11_48_s24 (g : z_G) (sh : z_H) : z_H := z_u (w_X11_48_s23 g sh) 48 (.inr (11, [.ref (z_ad g 49), .ref (z_ad g 50), .ref (z_ad g 51), .ref (z_ad g 52), .int 0, .int 0, .int 0, .ref (z_ad g 53), .ref (z_ad g 54), .int 0, .int 0, .long 0, .long 0, .ref (z_ad g 55), .int 0, .ref (z_ad g 56), .int 0, .int 0, .int 0, .int 0, .int 0, .int 0, .ref (z_ad g 57), .ref (z_ad g 58), .ref (z_ad g 59), .long 0, .ref (z_ad g 60), .null, .int 0, .int 0, .int 0, .int 0, .null, .int 0, .int 0, .null, .int 0, .null, .null, .int 0, .int 0, .int 0, .null, .null, .null, .null]))
def w_X11_48_s25 (g : z_G) (sh : z_H) : z_H := z_u (w_X11_48_s24 g sh) 61 (.inl (z_ac g 0, 6, .inl (fun _ => 0)))
def w_X11_48_s26 (g : z_G) (sh : z_H) : z_H := z_u (w_X11_48_s25 g sh) 48 (.inr (11, [.ref (z_ad g 49), .ref (z_ad g 50), .ref (z_ad g 51), .ref (z_ad g 52), .int 0, .int 0, .int 0, .ref (z_ad g 53), .ref (z_ad g 54), .int 0, .int 0, .long 0, .long 0, .ref (z_ad g 55), .int 0, .ref (z_ad g 56), .int 0, .int 0, .int 0, .int 0, .int 0, .int 0, .ref (z_ad g 57), .ref (z_ad g 58), .ref (z_ad g 59), .long 0, .ref (z_ad g 60), .ref (z_ad g 61), .int 0, .int 0, .int 0, .int 0, .null, .int 0, .int 0, .null, .int 0, .null, .null, .int 0, .int 0, .int 0, .null, .null, .null, .null]))
def w_X11_48_s27 (g : z_G) (sh : z_H) : z_H := z_u (w_X11_48_s26 g sh) 62 (.inl (z_ac g 0, 5, .inl (fun _ => 0)))
def w_X11_48_s28 (g : z_G) (sh : z_H) : z_H := z_u (w_X11_48_s27 g sh) 48 (.inr (11, [.ref (z_ad g 49), .ref (z_ad g 50), .ref (z_ad g 51), .ref (z_ad g 52), .int 0, .int 0, .int 0, .ref (z_ad g 53), .ref (z_ad g 54), .int 0, .int 0, .long 0, .long 0, .ref (z_ad g 55), .int 0, .ref (z_ad g 56), .int 0, .int 0, .int 0, .int 0, .int 0, .int 0, .ref (z_ad g 57), .ref (z_ad g 58), .ref (z_ad g 59), .long 0, .ref (z_ad g 60), .ref (z_ad g 61), .int 0, .int 0, .int 0, .int 0, .ref (z_ad g 62), .int 0, .int 0, .null, .int 0, .null, .null, .int 0, .int 0, .int 0, .null, .null, .null, .null]))
def w_X11_48_s29 (g : z_G) (sh : z_H) : z_H := z_u (w_X11_48_s28 g sh) 63 (.inl (z_ac g 0, 21, .inl (fun _ => 0)))
def w_X11_48_s30 (g : z_G) (sh : z_H) : z_H := z_u (w_X11_48_s29 g sh) 48 (.inr (11, [.ref (z_ad g 49), .ref (z_ad g 50), .ref (z_ad g 51), .ref (z_ad g 52), .int 0, .int 0, .int 0, .ref (z_ad g 53), .ref (z_ad g 54), .int 0, .int 0, .long 0, .long 0, .ref (z_ad g 55), .int 0, .ref (z_ad g 56), .int 0, .int 0, .int 0, .int 0, .int 0, .int 0, .ref (z_ad g 57), .ref (z_ad g 58), .ref (z_ad g 59), .long 0, .ref (z_ad g 60), .ref (z_ad g 61), .int 0, .int 0, .int 0, .int 0, .ref (z_ad g 62), .int 0, .int 0, .ref (z_ad g 63), .int 0, .null, .null, .int 0, .int 0, .int 0, .null, .null, .null, .null]))
def w_X11_48_s31 (g : z_G) (sh : z_H) : z_H := z_u (w_X11_48_s30 g sh) 64 (.inl (z_ac g 0, 50, .inl (fun _ => 0)))
def w_X11_48_s32 (g : z_G) (sh : z_H) : z_H := z_u (w_X11_48_s31 g sh) 48 (.inr (11, [.ref (z_ad g 49), .ref (z_ad g 50), .ref (z_ad g 51), .ref (z_ad g 52), .int 0, .int 0, .int 0, .ref (z_ad g 53), .ref (z_ad g 54), .int 0, .int 0, .long 0, .long 0, .ref (z_ad g 55), .int 0, .ref (z_ad g 56), .int 0, .int 0, .int 0, .int 0, .int 0, .int 0, .ref (z_ad g 57), .ref (z_ad g 58), .ref (z_ad g 59), .long 0, .ref (z_ad g 60), .ref (z_ad g 61), .int 0, .int 0, .int 0, .int 0, .ref (z_ad g 62), .int 0, .int 0, .ref (z_ad g 63), .int 0, .ref (z_ad g 64), .null, .int 0, .int 0, .int 0, .null, .null, .null, .null]))
def w_X11_48_s33 (g : z_G) (sh : z_H) : z_H := z_u (w_X11_48_s32 g sh) 65 (.inl (z_ac g 0, 24, .inl (fun _ => 0)))
def w_X11_48_s34 (g : z_G) (sh : z_H) : z_H := z_u (w_X11_48_s33 g sh) 48 (.inr (11, [.ref (z_ad g 49), .ref (z_ad g 50), .ref (z_ad g 51), .ref (z_ad g 52), .int 0, .int 0, .int 0, .ref (z_ad g 53), .ref (z_ad g 54), .int 0, .int 0, .long 0, .long 0, .ref (z_ad g 55), .int 0, .ref (z_ad g 56), .int 0, .int 0, .int 0, .int 0, .int 0, .int 0, .ref (z_ad g 57), .ref (z_ad g 58), .ref (z_ad g 59), .long 0, .ref (z_ad g 60), .ref (z_ad g 61), .int 0, .int 0, .int 0, .int 0, .ref (z_ad g 62), .int 0, .int 0, .ref (z_ad g 63), .int 0, .ref (z_ad g 64), .ref (z_ad g 65), .int 0, .int 0, .int 0, .null, .null, .null, .null]))
def w_X11_48_s35 (g : z_G) (sh : z_H) : z_H := z_u (w_X11_48_s34 g sh) 66 (.inl (z_ac g 0, 6, .inl (fun _ => 0)))
def w_X11_48_s36 (g : z_G) (sh : z_H) : z_H := z_u (w_X11_48_s35 g sh) 48 (.inr (11, [.ref (z_ad g 49), .ref (z_ad g 50), .ref (z_ad g 51), .ref (z_ad g 52), .int 0, .int 0, .int 0, .ref (z_ad g 53), .ref (z_ad g 54), .int 0, .int 0, .long 0, .long 0, .ref (z_ad g 55), .int 0, .ref (z_ad g 56), .int 0, .int 0, .int 0, .int 0, .int 0, .int 0, .ref (z_ad g 57), .ref (z_ad g 58), .ref (z_ad g 59), .long 0, .ref (z_ad g 60), .ref (z_ad g 61), .int 0, .int 0, .int 0, .int 0, .ref (z_ad g 62), .int 0, .int 0, .ref (z_ad g 63), .int 0, .ref (z_ad g 64), .ref (z_ad g 65), .int 0, .int 0, .int 0, .ref (z_ad g 66), .null, .null, .null]))
def w_X11_48_s37 (g : z_G) (sh : z_H) : z_H := z_u (w_X11_48_s36 g sh) 67 (.inl (z_ac g 0, 6, .inl (fun _ => 0)))
def w_X11_48_s38 (g : z_G) (sh : z_H) : z_H := z_u (w_X11_48_s37 g sh) 48 (.inr (11, [.ref (z_ad g 49), .ref (z_ad g 50), .ref (z_ad g 51), .ref (z_ad g 52), .int 0, .int 0, .int 0, .ref (z_ad g 53), .ref (z_ad g 54), .int 0, .int 0, .long 0, .long 0, .ref (z_ad g 55), .int 0, .ref (z_ad g 56), .int 0, .int 0, .int 0, .int 0, .int 0, .int 0, .ref (z_ad g 57), .ref (z_ad g 58), .ref (z_ad g 59), .long 0, .ref (z_ad g 60), .ref (z_ad g 61), .int 0, .int 0, .int 0, .int 0, .ref (z_ad g 62), .int 0, .int 0, .ref (z_ad g 63), .int 0, .ref (z_ad g 64), .ref (z_ad g 65), .int 0, .int 0, .int 0, .ref (z_ad g 66), .ref (z_ad g 67), .null, .null]))
def w_X11_48_s39 (g : z_G) (sh : z_H) : z_H := z_u (w_X11_48_s38 g sh) 68 (.inl (z_ac g 1, 360, .inr (.inl (fun _ => 0))))
def w_X11_48_s40 (g : z_G) (sh : z_H) : z_H := z_u (w_X11_48_s39 g sh) 48 (.inr (11, [.ref (z_ad g 49), .ref (z_ad g 50), .ref (z_ad g 51), .ref (z_ad g 52), .int 0, .int 0, .int 0, .ref (z_ad g 53), .ref (z_ad g 54), .int 0, .int 0, .long 0, .long 0, .ref (z_ad g 55), .int 0, .ref (z_ad g 56), .int 0, .int 0, .int 0, .int 0, .int 0, .int 0, .ref (z_ad g 57), .ref (z_ad g 58), .ref (z_ad g 59), .long 0, .ref (z_ad g 60), .ref (z_ad g 61), .int 0, .int 0, .int 0, .int 0, .ref (z_ad g 62), .int 0, .int 0, .ref (z_ad g 63), .int 0, .ref (z_ad g 64), .ref (z_ad g 65), .int 0, .int 0, .int 0, .ref (z_ad g 66), .ref (z_ad g 67), .ref (z_ad g 68), .null]))
def w_X11_48_s41 (g : z_G) (sh : z_H) : z_H := z_u (w_X11_48_s40 g sh) 69 (.inl (z_ac g 1, 60, .inr (.inl (fun _ => 0))))
def w_X11_48_s42 (g : z_G) (sh : z_H) : z_H := z_u (w_X11_48_s41 g sh) 48 (.inr (11, [.ref (z_ad g 49), .ref (z_ad g 50), .ref (z_ad g 51), .ref (z_ad g 52), .int 0, .int 0, .int 0, .ref (z_ad g 53), .ref (z_ad g 54), .int 0, .int 0, .long 0, .long 0, .ref (z_ad g 55), .int 0, .ref (z_ad g 56), .int 0, .int 0, .int 0, .int 0, .int 0, .int 0, .ref (z_ad g 57), .ref (z_ad g 58), .ref (z_ad g 59), .long 0, .ref (z_ad g 60), .ref (z_ad g 61), .int 0, .int 0, .int 0, .int 0, .ref (z_ad g 62), .int 0, .int 0, .ref (z_ad g 63), .int 0, .ref (z_ad g 64), .ref (z_ad g 65), .int 0, .int 0, .int 0, .ref (z_ad g 66), .ref (z_ad g 67), .ref (z_ad g 68), .ref (z_ad g 69)]))
def wf_X11_48_1 : Nat → Int32 := upd (fun _ => 0) 0 (-1)
def w_X11_48_s43 (g : z_G) (sh : z_H) : z_H := z_u (w_X11_48_s42 g sh) 66 (.inl (z_ac g 0, 6, .inl wf_X11_48_1))
def wf_X11_48_2 : Nat → Int32 := upd wf_X11_48_1 1 (-1)
def w_X11_48_s44 (g : z_G) (sh : z_H) : z_H := z_u (w_X11_48_s43 g sh) 66 (.inl (z_ac g 0, 6, .inl wf_X11_48_2))
def wf_X11_48_3 : Nat → Int32 := upd wf_X11_48_2 2 (-1)
def w_X11_48_s45 (g : z_G) (sh : z_H) : z_H := z_u (w_X11_48_s44 g sh) 66 (.inl (z_ac g 0, 6, .inl wf_X11_48_3))
def wf_X11_48_4 : Nat → Int32 := upd wf_X11_48_3 3 (-1)
def w_X11_48_s46 (g : z_G) (sh : z_H) : z_H := z_u (w_X11_48_s45 g sh) 66 (.inl (z_ac g 0, 6, .inl wf_X11_48_4))
def wf_X11_48_5 : Nat → Int32 := upd wf_X11_48_4 4 (-1)
def w_X11_48_s47 (g : z_G) (sh : z_H) : z_H := z_u (w_X11_48_s46 g sh) 66 (.inl (z_ac g 0, 6, .inl wf_X11_48_5))
def wf_X11_48_6 : Nat → Int32 := upd wf_X11_48_5 5 (-1)
def w_X11_48_s48 (g : z_G) (sh : z_H) : z_H := z_u (w_X11_48_s47 g sh) 66 (.inl (z_ac g 0, 6, .inl wf_X11_48_6))
def w_X11_48_s49 (g : z_G) (sh : z_H) : z_H := z_u (w_X11_48_s48 g sh) 48 (.inr (11, [.ref (z_ad g 49), .ref (z_ad g 50), .ref (z_ad g 51), .ref (z_ad g 52), .int 0, .int 0, .int 0, .ref (z_ad g 53), .ref (z_ad g 54), .int 0, .int 0, .long 0, .long 0, .ref (z_ad g 55), .int 0, .ref (z_ad g 56), .int (-1), .int 0, .int 0, .int 0, .int 0, .int 0, .ref (z_ad g 57), .ref (z_ad g 58), .ref (z_ad g 59), .long 0, .ref (z_ad g 60), .ref (z_ad g 61), .int 0, .int 0, .int 0, .int 0, .ref (z_ad g 62), .int 0, .int 0, .ref (z_ad g 63), .int 0, .ref (z_ad g 64), .ref (z_ad g 65), .int 0, .int 0, .int 0, .ref (z_ad g 66), .ref (z_ad g 67), .ref (z_ad g 68), .ref (z_ad g 69)]))
def wf_X11_48_7 : Nat → Int32 := upd (fun _ => 0) 36 1
def w_X11_48_s50 (g : z_G) (sh : z_H) : z_H := z_u (w_X11_48_s49 g sh) 49 (.inl (z_ac g 0, 75, .inl wf_X11_48_7))
def wf_X11_48_8 : Nat → Int32 := upd wf_X11_48_7 38 5
def w_X11_48_s51 (g : z_G) (sh : z_H) : z_H := z_u (w_X11_48_s50 g sh) 49 (.inl (z_ac g 0, 75, .inl wf_X11_48_8))
def wf_X11_48_9 : Nat → Int32 := upd wf_X11_48_8 39 9
def w_X11_48_s52 (g : z_G) (sh : z_H) : z_H := z_u (w_X11_48_s51 g sh) 49 (.inl (z_ac g 0, 75, .inl wf_X11_48_9))
def wf_X11_48_10 : Nat → Int32 := upd wf_X11_48_9 40 9
def w_X11_48_s53 (g : z_G) (sh : z_H) : z_H := z_u (w_X11_48_s52 g sh) 49 (.inl (z_ac g 0, 75, .inl wf_X11_48_10))
def wf_X11_48_11 : Nat → Int32 := upd wf_X11_48_10 41 9
def w_X11_48_s54 (g : z_G) (sh : z_H) : z_H := z_u (w_X11_48_s53 g sh) 49 (.inl (z_ac g 0, 75, .inl wf_X11_48_11))
def wf_X11_48_12 : Nat → Int32 := upd wf_X11_48_11 42 9
def w_X11_48_s55 (g : z_G) (sh : z_H) : z_H := z_u (w_X11_48_s54 g sh) 49 (.inl (z_ac g 0, 75, .inl wf_X11_48_12))
def wf_X11_48_13 : Nat → Int32 := upd wf_X11_48_12 43 9
def w_X11_48_s56 (g : z_G) (sh : z_H) : z_H := z_u (w_X11_48_s55 g sh) 49 (.inl (z_ac g 0, 75, .inl wf_X11_48_13))
def wf_X11_48_14 : Nat → Int32 := upd wf_X11_48_13 44 9
def w_X11_48_s57 (g : z_G) (sh : z_H) : z_H := z_u (w_X11_48_s56 g sh) 49 (.inl (z_ac g 0, 75, .inl wf_X11_48_14))
def wf_X11_48_15 : Nat → Int32 := upd wf_X11_48_14 45 9
def w_X11_48_s58 (g : z_G) (sh : z_H) : z_H := z_u (w_X11_48_s57 g sh) 49 (.inl (z_ac g 0, 75, .inl wf_X11_48_15))
def wf_X11_48_16 : Nat → Int32 := upd wf_X11_48_15 46 9
def w_X11_48_s59 (g : z_G) (sh : z_H) : z_H := z_u (w_X11_48_s58 g sh) 49 (.inl (z_ac g 0, 75, .inl wf_X11_48_16))
def wf_X11_48_17 : Nat → Int32 := upd wf_X11_48_16 47 9
def w_X11_48_s60 (g : z_G) (sh : z_H) : z_H := z_u (w_X11_48_s59 g sh) 49 (.inl (z_ac g 0, 75, .inl wf_X11_48_17))
def wf_X11_48_18 : Nat → Int32 := upd wf_X11_48_17 48 9
def w_X11_48_s61 (g : z_G) (sh : z_H) : z_H := z_u (w_X11_48_s60 g sh) 49 (.inl (z_ac g 0, 75, .inl wf_X11_48_18))
def wf_X11_48_19 : Nat → Int32 := upd wf_X11_48_18 49 9
def w_X11_48_s62 (g : z_G) (sh : z_H) : z_H := z_u (w_X11_48_s61 g sh) 49 (.inl (z_ac g 0, 75, .inl wf_X11_48_19))
def wf_X11_48_20 : Nat → Int32 := upd wf_X11_48_19 50 9
def w_X11_48_s63 (g : z_G) (sh : z_H) : z_H := z_u (w_X11_48_s62 g sh) 49 (.inl (z_ac g 0, 75, .inl wf_X11_48_20))
def wf_X11_48_21 : Nat → Int32 := upd wf_X11_48_20 51 9
def w_X11_48_s64 (g : z_G) (sh : z_H) : z_H := z_u (w_X11_48_s63 g sh) 49 (.inl (z_ac g 0, 75, .inl wf_X11_48_21))
def wf_X11_48_22 : Nat → Int32 := upd wf_X11_48_21 52 9
def w_X11_48_s65 (g : z_G) (sh : z_H) : z_H := z_u (w_X11_48_s64 g sh) 49 (.inl (z_ac g 0, 75, .inl wf_X11_48_22))
def wf_X11_48_23 : Nat → Int32 := upd wf_X11_48_22 53 9
def w_X11_48_s66 (g : z_G) (sh : z_H) : z_H := z_u (w_X11_48_s65 g sh) 49 (.inl (z_ac g 0, 75, .inl wf_X11_48_23))
def wf_X11_48_24 : Nat → Int32 := upd wf_X11_48_23 54 9
def w_X11_48_s67 (g : z_G) (sh : z_H) : z_H := z_u (w_X11_48_s66 g sh) 49 (.inl (z_ac g 0, 75, .inl wf_X11_48_24))
def wf_X11_48_25 : Nat → Int32 := upd wf_X11_48_24 55 9
def w_X11_48_s68 (g : z_G) (sh : z_H) : z_H := z_u (w_X11_48_s67 g sh) 49 (.inl (z_ac g 0, 75, .inl wf_X11_48_25))
def wf_X11_48_26 : Nat → Int32 := upd wf_X11_48_25 56 9
def w_X11_48_s69 (g : z_G) (sh : z_H) : z_H := z_u (w_X11_48_s68 g sh) 49 (.inl (z_ac g 0, 75, .inl wf_X11_48_26))
def wf_X11_48_27 : Nat → Int32 := upd wf_X11_48_26 57 9
def w_X11_48_s70 (g : z_G) (sh : z_H) : z_H := z_u (w_X11_48_s69 g sh) 49 (.inl (z_ac g 0, 75, .inl wf_X11_48_27))
def wf_X11_48_28 : Nat → Int32 := upd wf_X11_48_27 58 9
def w_X11_48_s71 (g : z_G) (sh : z_H) : z_H := z_u (w_X11_48_s70 g sh) 49 (.inl (z_ac g 0, 75, .inl wf_X11_48_28))
def wf_X11_48_29 : Nat → Int32 := upd wf_X11_48_28 59 9
def w_X11_48_s72 (g : z_G) (sh : z_H) : z_H := z_u (w_X11_48_s71 g sh) 49 (.inl (z_ac g 0, 75, .inl wf_X11_48_29))
def wf_X11_48_30 : Nat → Int32 := upd wf_X11_48_29 60 9
def w_X11_48_s73 (g : z_G) (sh : z_H) : z_H := z_u (w_X11_48_s72 g sh) 49 (.inl (z_ac g 0, 75, .inl wf_X11_48_30))
def wf_X11_48_31 : Nat → Int32 := upd wf_X11_48_30 61 9
def w_X11_48_s74 (g : z_G) (sh : z_H) : z_H := z_u (w_X11_48_s73 g sh) 49 (.inl (z_ac g 0, 75, .inl wf_X11_48_31))
def wf_X11_48_32 : Nat → Int32 := upd wf_X11_48_31 62 9
def w_X11_48_s75 (g : z_G) (sh : z_H) : z_H := z_u (w_X11_48_s74 g sh) 49 (.inl (z_ac g 0, 75, .inl wf_X11_48_32))
def wf_X11_48_33 : Nat → Int32 := upd wf_X11_48_32 63 9
def w_X11_48_s76 (g : z_G) (sh : z_H) : z_H := z_u (w_X11_48_s75 g sh) 49 (.inl (z_ac g 0, 75, .inl wf_X11_48_33))
def wf_X11_48_34 : Nat → Int32 := upd wf_X11_48_33 64 9
def w_X11_48_s77 (g : z_G) (sh : z_H) : z_H := z_u (w_X11_48_s76 g sh) 49 (.inl (z_ac g 0, 75, .inl wf_X11_48_34))
def wf_X11_48_35 : Nat → Int32 := upd wf_X11_48_34 65 9
def w_X11_48_s78 (g : z_G) (sh : z_H) : z_H := z_u (w_X11_48_s77 g sh) 49 (.inl (z_ac g 0, 75, .inl wf_X11_48_35))
def wf_X11_48_36 : Nat → Int32 := upd wf_X11_48_35 66 9
def w_X11_48_s79 (g : z_G) (sh : z_H) : z_H := z_u (w_X11_48_s78 g sh) 49 (.inl (z_ac g 0, 75, .inl wf_X11_48_36))
def wf_X11_48_37 : Nat → Int32 := upd wf_X11_48_36 67 9
def w_X11_48_s80 (g : z_G) (sh : z_H) : z_H := z_u (w_X11_48_s79 g sh) 49 (.inl (z_ac g 0, 75, .inl wf_X11_48_37))
def wf_X11_48_38 : Nat → Int32 := upd wf_X11_48_37 68 9
def w_X11_48_s81 (g : z_G) (sh : z_H) : z_H := z_u (w_X11_48_s80 g sh) 49 (.inl (z_ac g 0, 75, .inl wf_X11_48_38))
def wf_X11_48_39 : Nat → Int32 := upd wf_X11_48_38 69 9
def w_X11_48_s82 (g : z_G) (sh : z_H) : z_H := z_u (w_X11_48_s81 g sh) 49 (.inl (z_ac g 0, 75, .inl wf_X11_48_39))
def wf_X11_48_40 : Nat → Int32 := upd wf_X11_48_39 70 9
def w_X11_48_s83 (g : z_G) (sh : z_H) : z_H := z_u (w_X11_48_s82 g sh) 49 (.inl (z_ac g 0, 75, .inl wf_X11_48_40))
def wf_X11_48_41 : Nat → Int32 := upd wf_X11_48_40 71 9
def w_X11_48_s84 (g : z_G) (sh : z_H) : z_H := z_u (w_X11_48_s83 g sh) 49 (.inl (z_ac g 0, 75, .inl wf_X11_48_41))
def wf_X11_48_42 : Nat → Int32 := upd wf_X11_48_41 72 9
def w_X11_48_s85 (g : z_G) (sh : z_H) : z_H := z_u (w_X11_48_s84 g sh) 49 (.inl (z_ac g 0, 75, .inl wf_X11_48_42))
def wf_X11_48_43 : Nat → Int32 := upd wf_X11_48_42 73 9
def w_X11_48_s86 (g : z_G) (sh : z_H) : z_H := z_u (w_X11_48_s85 g sh) 49 (.inl (z_ac g 0, 75, .inl wf_X11_48_43))
def wf_X11_48_44 : Nat → Int32 := upd wf_X11_48_43 74 9
def w_X11_48_s87 (g : z_G) (sh : z_H) : z_H := z_u (w_X11_48_s86 g sh) 49 (.inl (z_ac g 0, 75, .inl wf_X11_48_44))
def w_X11_48_s88 (g : z_G) (sh : z_H) : z_H := z_u (w_X11_48_s87 g sh) 48 (.inr (11, [.ref (z_ad g 49), .ref (z_ad g 50), .ref (z_ad g 51), .ref (z_ad g 52), .int 0, .int 0, .int 0, .ref (z_ad g 53), .ref (z_ad g 54), .int 0, .int 0, .long 0, .long 0, .ref (z_ad g 55), .int 0, .ref (z_ad g 56), .int (-1), .int 0, .int 0, .int 0, .int 0, .int 0, .ref (z_ad g 57), .ref (z_ad g 58), .ref (z_ad g 59), .long 0, .ref (z_ad g 60), .ref (z_ad g 61), .int 0, .int 0, .int (-1), .int 0, .ref (z_ad g 62), .int 0, .int 0, .ref (z_ad g 63), .int 0, .ref (z_ad g 64), .ref (z_ad g 65), .int 0, .int 0, .int 0, .ref (z_ad g 66), .ref (z_ad g 67), .ref (z_ad g 68), .ref (z_ad g 69)]))
def w_X11_48 (g : z_G) (sh : z_H) : z_H := w_X11_48_s88 g sh
set_option maxHeartbeats 4000000 in
set_option maxRecDepth 100000 in
theorem i_X11_48 {g : z_G} {sh : z_H} (h0 : sh 48 = .inr (11, [.null, .null, .null, .null, .int 0, .int 0, .int 0, .null, .null, .int 0, .int 0, .long 0, .long 0, .null, .int 0, .null, .int 0, .int 0, .int 0, .int 0, .int 0, .int 0, .null, .null, .null, .long 0, .null, .null, .int 0, .int 0, .int 0, .int 0, .null, .int 0, .int 0, .null, .int 0, .null, .null, .int 0, .int 0, .int 0, .null, .null, .null, .null])) : y_Ct g M_X11_init 1 21 1009 49 70 [.ref (z_ad g 48)] sh (w_X11_48 g sh) :=
  y_Ct.of (by decide +kernel) rfl rfl (Nat.le_of_ble_eq_true rfl) (fun K cx ce' => by
    refine y_weak (L' := [some (.ref (z_ad g 48)), none]) (z_wk_s (z_wk_e (z_wk_0))) ?_
    refine y_aload_n cx rfl rfl dX11_init_0 ?_
    refine y_objinit cx tb_140 tb_11 tb_12 (by decide) (Nat.le_of_ble_eq_true rfl) dX11_init_1 ?_
    refine y_aload_n cx rfl rfl dX11_init_4 ?_
    refine y_bipush (v := 75) cx (by decide +kernel) dX11_init_5 ?_
    refine y_newa_int (sh1 := w_X11_48_s1 g sh) cx tb_59 rfl (by decide +kernel) (by decide +kernel) (by decide) rfl rfl rfl (by decide) (by decide) rfl dX11_init_7 ?_
    refine y_putF (i := 48) (fs := [.null, .null, .null, .null, .int 0, .int 0, .int 0, .null, .null, .int 0, .int 0, .long 0, .long 0, .null, .int 0, .null, .int 0, .int 0, .int 0, .int 0, .int 0, .int 0, .null, .null, .null, .long 0, .null, .null, .int 0, .int 0, .int 0, .int 0, .null, .int 0, .int 0, .null, .int 0, .null, .null, .int 0, .int 0, .int 0, .null, .null, .null, .null]) (fs1 := [.ref (z_ad g 49), .null, .null, .null, .int 0, .int 0, .int 0, .null, .null, .int 0, .int 0, .long 0, .long 0, .null, .int 0, .null, .int 0, .int 0, .int 0, .int 0, .int 0, .int 0, .null, .null, .null, .long 0, .null, .null, .int 0, .int 0, .int 0, .int 0, .null, .int 0, .int 0, .null, .int 0, .null, .null, .int 0, .int 0, .int 0, .null, .null, .null, .null]) (sh1 := w_X11_48_s2 g sh) cx z_cl11 (j := 0) (by decide) tb_141 rfl rfl ce'.2.2.1 rfl rfl rfl (by decide) (Eq.trans (b := sh 48) rfl h0) rfl rfl (Nat.le_of_ble_eq_true rfl) dX11_init_9 ?_
    refine y_aload_n cx rfl rfl dX11_init_12 ?_
    refine y_bipush (v := 40) cx (by decide +kernel) dX11_init_13 ?_
    refine y_newa_int (sh1 := w_X11_48_s3 g sh) cx tb_59 rfl (by decide +kernel) (by decide +kernel) (by decide) rfl rfl rfl (by decide) (by decide) rfl dX11_init_15 ?_
    refine y_putF (i := 48) (fs := [.ref (z_ad g 49), .null, .null, .null, .int 0, .int 0, .int 0, .null, .null, .int 0, .int 0, .long 0, .long 0, .null, .int 0, .null, .int 0, .int 0, .int 0, .int 0, .int 0, .int 0, .null, .null, .null, .long 0, .null, .null, .int 0, .int 0, .int 0, .int 0, .null, .int 0, .int 0, .null, .int 0, .null, .null, .int 0, .int 0, .int 0, .null, .null, .null, .null]) (fs1 := [.ref (z_ad g 49), .ref (z_ad g 50), .null, .null, .int 0, .int 0, .int 0, .null, .null, .int 0, .int 0, .long 0, .long 0, .null, .int 0, .null, .int 0, .int 0, .int 0, .int 0, .int 0, .int 0, .null, .null, .null, .long 0, .null, .null, .int 0, .int 0, .int 0, .int 0, .null, .int 0, .int 0, .null, .int 0, .null, .null, .int 0, .int 0, .int 0, .null, .null, .null, .null]) (sh1 := w_X11_48_s4 g sh) cx z_cl11 (j := 1) (by decide) tb_142 rfl rfl ce'.2.2.1 rfl rfl rfl (by decide) rfl rfl rfl (Nat.le_of_ble_eq_true rfl) dX11_init_17 ?_
    refine y_aload_n cx rfl rfl dX11_init_20 ?_
    refine y_bipush (v := 40) cx (by decide +kernel) dX11_init_21 ?_
    refine y_newa_int (sh1 := w_X11_48_s5 g sh) cx tb_59 rfl (by decide +kernel) (by decide +kernel) (by decide) rfl rfl rfl (by decide) (by decide) rfl dX11_init_23 ?_
    refine y_putF (i := 48) (fs := [.ref (z_ad g 49), .ref (z_ad g 50), .null, .null, .int 0, .int 0, .int 0, .null, .null, .int 0, .int 0, .long 0, .long 0, .null, .int 0, .null, .int 0, .int 0, .int 0, .int 0, .int 0, .int 0, .null, .null, .null, .long 0, .null, .null, .int 0, .int 0, .int 0, .int 0, .null, .int 0, .int 0, .null, .int 0, .null, .null, .int 0, .int 0, .int 0, .null, .null, .null, .null]) (fs1 := [.ref (z_ad g 49), .ref (z_ad g 50), .ref (z_ad g 51), .null, .int 0, .int 0, .int 0, .null, .null, .int 0, .int 0, .long 0, .long 0, .null, .int 0, .null, .int 0, .int 0, .int 0, .int 0, .int 0, .int 0, .null, .null, .null, .long 0, .null, .null, .int 0, .int 0, .int 0, .int 0, .null, .int 0, .int 0, .null, .int 0, .null, .null, .int 0, .int 0, .int 0, .null, .null, .null, .null]) (sh1 := w_X11_48_s6 g sh) cx z_cl11 (j := 2) (by decide) tb_143 rfl rfl ce'.2.2.1 rfl rfl rfl (by decide) rfl rfl rfl (Nat.le_of_ble_eq_true rfl) dX11_init_25 ?_
    refine y_aload_n cx rfl rfl dX11_init_28 ?_
    refine y_bipush (v := 40) cx (by decide +kernel) dX11_init_29 ?_
    refine y_newa_int (sh1 := w_X11_48_s7 g sh) cx tb_59 rfl (by decide +kernel) (by decide +kernel) (by decide) rfl rfl rfl (by decide) (by decide) rfl dX11_init_31 ?_
    refine y_putF (i := 48) (fs := [.ref (z_ad g 49), .ref (z_ad g 50), .ref (z_ad g 51), .null, .int 0, .int 0, .int 0, .null, .null, .int 0, .int 0, .long 0, .long 0, .null, .int 0, .null, .int 0, .int 0, .int 0, .int 0, .int 0, .int 0, .null, .null, .null, .long 0, .null, .null, .int 0, .int 0, .int 0, .int 0, .null, .int 0, .int 0, .null, .int 0, .null, .null, .int 0, .int 0, .int 0, .null, .null, .null, .null]) (fs1 := [.ref (z_ad g 49), .ref (z_ad g 50), .ref (z_ad g 51), .ref (z_ad g 52), .int 0, .int 0, .int 0, .null, .null, .int 0, .int 0, .long 0, .long 0, .null, .int 0, .null, .int 0, .int 0, .int 0, .int 0, .int 0, .int 0, .null, .null, .null, .long 0, .null, .null, .int 0, .int 0, .int 0, .int 0, .null, .int 0, .int 0, .null, .int 0, .null, .null, .int 0, .int 0, .int 0, .null, .null, .null, .null]) (sh1 := w_X11_48_s8 g sh) cx z_cl11 (j := 3) (by decide) tb_144 rfl rfl ce'.2.2.1 rfl rfl rfl (by decide) rfl rfl rfl (Nat.le_of_ble_eq_true rfl) dX11_init_33 ?_
    refine y_aload_n cx rfl rfl dX11_init_36 ?_
    refine y_bipush (v := 6) cx (by decide +kernel) dX11_init_37 ?_
    refine y_newa_int (sh1 := w_X11_48_s9 g sh) cx tb_59 rfl (by decide +kernel) (by decide +kernel) (by decide) rfl rfl rfl (by decide) (by decide) rfl dX11_init_39 ?_
    refine y_putF (i := 48) (fs := [.ref (z_ad g 49), .ref (z_ad g 50), .ref (z_ad g 51), .ref (z_ad g 52), .int 0, .int 0, .int 0, .null, .null, .int 0, .int 0, .long 0, .long 0, .null, .int 0, .null, .int 0, .int 0, .int 0, .int 0, .int 0, .int 0, .null, .null, .null, .long 0, .null, .null, .int 0, .int 0, .int 0, .int 0, .null, .int 0, .int 0, .null, .int 0, .null, .null, .int 0, .int 0, .int 0, .null, .null, .null, .null]) (fs1 := [.ref (z_ad g 49), .ref (z_ad g 50), .ref (z_ad g 51), .ref (z_ad g 52), .int 0, .int 0, .int 0, .ref (z_ad g 53), .null, .int 0, .int 0, .long 0, .long 0, .null, .int 0, .null, .int 0, .int 0, .int 0, .int 0, .int 0, .int 0, .null, .null, .null, .long 0, .null, .null, .int 0, .int 0, .int 0, .int 0, .null, .int 0, .int 0, .null, .int 0, .null, .null, .int 0, .int 0, .int 0, .null, .null, .null, .null]) (sh1 := w_X11_48_s10 g sh) cx z_cl11 (j := 7) (by decide) tb_145 rfl rfl ce'.2.2.1 rfl rfl rfl (by decide) rfl rfl rfl (Nat.le_of_ble_eq_true rfl) dX11_init_41 ?_
    refine y_aload_n cx rfl rfl dX11_init_44 ?_
    refine y_bipush (v := 6) cx (by decide +kernel) dX11_init_45 ?_
    refine y_newa_boolean (sh1 := w_X11_48_s11 g sh) cx tb_146 rfl (by decide +kernel) (by decide +kernel) (by decide) rfl rfl rfl (by decide) (by decide) rfl dX11_init_47 ?_
    refine y_putF (i := 48) (fs := [.ref (z_ad g 49), .ref (z_ad g 50), .ref (z_ad g 51), .ref (z_ad g 52), .int 0, .int 0, .int 0, .ref (z_ad g 53), .null, .int 0, .int 0, .long 0, .long 0, .null, .int 0, .null, .int 0, .int 0, .int 0, .int 0, .int 0, .int 0, .null, .null, .null, .long 0, .null, .null, .int 0, .int 0, .int 0, .int 0, .null, .int 0, .int 0, .null, .int 0, .null, .null, .int 0, .int 0, .int 0, .null, .null, .null, .null]) (fs1 := [.ref (z_ad g 49), .ref (z_ad g 50), .ref (z_ad g 51), .ref (z_ad g 52), .int 0, .int 0, .int 0, .ref (z_ad g 53), .ref (z_ad g 54), .int 0, .int 0, .long 0, .long 0, .null, .int 0, .null, .int 0, .int 0, .int 0, .int 0, .int 0, .int 0, .null, .null, .null, .long 0, .null, .null, .int 0, .int 0, .int 0, .int 0, .null, .int 0, .int 0, .null, .int 0, .null, .null, .int 0, .int 0, .int 0, .null, .null, .null, .null]) (sh1 := w_X11_48_s12 g sh) cx z_cl11 (j := 8) (by decide) tb_147 rfl rfl ce'.2.2.1 rfl rfl rfl (by decide) rfl rfl rfl (Nat.le_of_ble_eq_true rfl) dX11_init_49 ?_
    refine y_aload_n cx rfl rfl dX11_init_52 ?_
    refine y_bipush (v := 120) cx (by decide +kernel) dX11_init_53 ?_
    refine y_newa_int (sh1 := w_X11_48_s13 g sh) cx tb_59 rfl (by decide +kernel) (by decide +kernel) (by decide) rfl rfl rfl (by decide) (by decide) rfl dX11_init_55 ?_
    refine y_putF (i := 48) (fs := [.ref (z_ad g 49), .ref (z_ad g 50), .ref (z_ad g 51), .ref (z_ad g 52), .int 0, .int 0, .int 0, .ref (z_ad g 53), .ref (z_ad g 54), .int 0, .int 0, .long 0, .long 0, .null, .int 0, .null, .int 0, .int 0, .int 0, .int 0, .int 0, .int 0, .null, .null, .null, .long 0, .null, .null, .int 0, .int 0, .int 0, .int 0, .null, .int 0, .int 0, .null, .int 0, .null, .null, .int 0, .int 0, .int 0, .null, .null, .null, .null]) (fs1 := [.ref (z_ad g 49), .ref (z_ad g 50), .ref (z_ad g 51), .ref (z_ad g 52), .int 0, .int 0, .int 0, .ref (z_ad g 53), .ref (z_ad g 54), .int 0, .int 0, .long 0, .long 0, .ref (z_ad g 55), .int 0, .null, .int 0, .int 0, .int 0, .int 0, .int 0, .int 0, .null, .null, .null, .long 0, .null, .null, .int 0, .int 0, .int 0, .int 0, .null, .int 0, .int 0, .null, .int 0, .null, .null, .int 0, .int 0, .int 0, .null, .null, .null, .null]) (sh1 := w_X11_48_s14 g sh) cx z_cl11 (j := 13) (by decide) tb_148 rfl rfl ce'.2.2.1 rfl rfl rfl (by decide) rfl rfl rfl (Nat.le_of_ble_eq_true rfl) dX11_init_57 ?_
    refine y_aload_n cx rfl rfl dX11_init_60 ?_
    refine y_bipush (v := 120) cx (by decide +kernel) dX11_init_61 ?_
    refine y_newa_int (sh1 := w_X11_48_s15 g sh) cx tb_59 rfl (by decide +kernel) (by decide +kernel) (by decide) rfl rfl rfl (by decide) (by decide) rfl dX11_init_63 ?_
    refine y_putF (i := 48) (fs := [.ref (z_ad g 49), .ref (z_ad g 50), .ref (z_ad g 51), .ref (z_ad g 52), .int 0, .int 0, .int 0, .ref (z_ad g 53), .ref (z_ad g 54), .int 0, .int 0, .long 0, .long 0, .ref (z_ad g 55), .int 0, .null, .int 0, .int 0, .int 0, .int 0, .int 0, .int 0, .null, .null, .null, .long 0, .null, .null, .int 0, .int 0, .int 0, .int 0, .null, .int 0, .int 0, .null, .int 0, .null, .null, .int 0, .int 0, .int 0, .null, .null, .null, .null]) (fs1 := [.ref (z_ad g 49), .ref (z_ad g 50), .ref (z_ad g 51), .ref (z_ad g 52), .int 0, .int 0, .int 0, .ref (z_ad g 53), .ref (z_ad g 54), .int 0, .int 0, .long 0, .long 0, .ref (z_ad g 55), .int 0, .ref (z_ad g 56), .int 0, .int 0, .int 0, .int 0, .int 0, .int 0, .null, .null, .null, .long 0, .null, .null, .int 0, .int 0, .int 0, .int 0, .null, .int 0, .int 0, .null, .int 0, .null, .null, .int 0, .int 0, .int 0, .null, .null, .null, .null]) (sh1 := w_X11_48_s16 g sh) cx z_cl11 (j := 15) (by decide) tb_149 rfl rfl ce'.2.2.1 rfl rfl rfl (by decide) rfl rfl rfl (Nat.le_of_ble_eq_true rfl) dX11_init_65 ?_
    refine y_aload_n cx rfl rfl dX11_init_68 ?_
    refine y_bipush (v := 6) cx (by decide +kernel) dX11_init_69 ?_
    refine y_newa_int (sh1 := w_X11_48_s17 g sh) cx tb_59 rfl (by decide +kernel) (by decide +kernel) (by decide) rfl rfl rfl (by decide) (by decide) rfl dX11_init_71 ?_
    refine y_putF (i := 48) (fs := [.ref (z_ad g 49), .ref (z_ad g 50), .ref (z_ad g 51), .ref (z_ad g 52), .int 0, .int 0, .int 0, .ref (z_ad g 53), .ref (z_ad g 54), .int 0, .int 0, .long 0, .long 0, .ref (z_ad g 55), .int 0, .ref (z_ad g 56), .int 0, .int 0, .int 0, .int 0, .int 0, .int 0, .null, .null, .null, .long 0, .null, .null, .int 0, .int 0, .int 0, .int 0, .null, .int 0, .int 0, .null, .int 0, .null, .null, .int 0, .int 0, .int 0, .null, .null, .null, .null]) (fs1 := [.ref (z_ad g 49), .ref (z_ad g 50), .ref (z_ad g 51), .ref (z_ad g 52), .int 0, .int 0, .int 0, .ref (z_ad g 53), .ref (z_ad g 54), .int 0, .int 0, .long 0, .long 0, .ref (z_ad g 55), .int 0, .ref (z_ad g 56), .int 0, .int 0, .int 0, .int 0, .int 0, .int 0, .ref (z_ad g 57), .null, .null, .long 0, .null, .null, .int 0, .int 0, .int 0, .int 0, .null, .int 0, .int 0, .null, .int 0, .null, .null, .int 0, .int 0, .int 0, .null, .null, .null, .null]) (sh1 := w_X11_48_s18 g sh) cx z_cl11 (j := 22) (by decide) tb_150 rfl rfl ce'.2.2.1 rfl rfl rfl (by decide) rfl rfl rfl (Nat.le_of_ble_eq_true rfl) dX11_init_73 ?_
    refine y_aload_n cx rfl rfl dX11_init_76 ?_
    refine y_bipush (v := 6) cx (by decide +kernel) dX11_init_77 ?_
    refine y_newa_long (sh1 := w_X11_48_s19 g sh) cx tb_103 rfl (by decide +kernel) (by decide +kernel) (by decide) rfl rfl rfl (by decide) (by decide) rfl dX11_init_79 ?_
    refine y_putF (i := 48) (fs := [.ref (z_ad g 49), .ref (z_ad g 50), .ref (z_ad g 51), .ref (z_ad g 52), .int 0, .int 0, .int 0, .ref (z_ad g 53), .ref (z_ad g 54), .int 0, .int 0, .long 0, .long 0, .ref (z_ad g 55), .int 0, .ref (z_ad g 56), .int 0, .int 0, .int 0, .int 0, .int 0, .int 0, .ref (z_ad g 57), .null, .null, .long 0, .null, .null, .int 0, .int 0, .int 0, .int 0, .null, .int 0, .int 0, .null, .int 0, .null, .null, .int 0, .int 0, .int 0, .null, .null, .null, .null]) (fs1 := [.ref (z_ad g 49), .ref (z_ad g 50), .ref (z_ad g 51), .ref (z_ad g 52), .int 0, .int 0, .int 0, .ref (z_ad g 53), .ref (z_ad g 54), .int 0, .int 0, .long 0, .long 0, .ref (z_ad g 55), .int 0, .ref (z_ad g 56), .int 0, .int 0, .int 0, .int 0, .int 0, .int 0, .ref (z_ad g 57), .ref (z_ad g 58), .null, .long 0, .null, .null, .int 0, .int 0, .int 0, .int 0, .null, .int 0, .int 0, .null, .int 0, .null, .null, .int 0, .int 0, .int 0, .null, .null, .null, .null]) (sh1 := w_X11_48_s20 g sh) cx z_cl11 (j := 23) (by decide) tb_151 rfl rfl ce'.2.2.1 rfl rfl rfl (by decide) rfl rfl rfl (Nat.le_of_ble_eq_true rfl) dX11_init_81 ?_
    refine y_aload_n cx rfl rfl dX11_init_84 ?_
    refine y_bipush (v := 6) cx (by decide +kernel) dX11_init_85 ?_
    refine y_newa_long (sh1 := w_X11_48_s21 g sh) cx tb_103 rfl (by decide +kernel) (by decide +kernel) (by decide) rfl rfl rfl (by decide) (by decide) rfl dX11_init_87 ?_
    refine y_putF (i := 48) (fs := [.ref (z_ad g 49), .ref (z_ad g 50), .ref (z_ad g 51), .ref (z_ad g 52), .int 0, .int 0, .int 0, .ref (z_ad g 53), .ref (z_ad g 54), .int 0, .int 0, .long 0, .long 0, .ref (z_ad g 55), .int 0, .ref (z_ad g 56), .int 0, .int 0, .int 0, .int 0, .int 0, .int 0, .ref (z_ad g 57), .ref (z_ad g 58), .null, .long 0, .null, .null, .int 0, .int 0, .int 0, .int 0, .null, .int 0, .int 0, .null, .int 0, .null, .null, .int 0, .int 0, .int 0, .null, .null, .null, .null]) (fs1 := [.ref (z_ad g 49), .ref (z_ad g 50), .ref (z_ad g 51), .ref (z_ad g 52), .int 0, .int 0, .int 0, .ref (z_ad g 53), .ref (z_ad g 54), .int 0, .int 0, .long 0, .long 0, .ref (z_ad g 55), .int 0, .ref (z_ad g 56), .int 0, .int 0, .int 0, .int 0, .int 0, .int 0, .ref (z_ad g 57), .ref (z_ad g 58), .ref (z_ad g 59), .long 0, .null, .null, .int 0, .int 0, .int 0, .int 0, .null, .int 0, .int 0, .null, .int 0, .null, .null, .int 0, .int 0, .int 0, .null, .null, .null, .null]) (sh1 := w_X11_48_s22 g sh) cx z_cl11 (j := 24) (by decide) tb_152 rfl rfl ce'.2.2.1 rfl rfl rfl (by decide) rfl rfl rfl (Nat.le_of_ble_eq_true rfl) dX11_init_89 ?_
    refine y_aload_n cx rfl rfl dX11_init_92 ?_
    refine y_bipush (v := 6) cx (by decide +kernel) dX11_init_93 ?_
    refine y_newa_int (sh1 := w_X11_48_s23 g sh) cx tb_59 rfl (by decide +kernel) (by decide +kernel) (by decide) rfl rfl rfl (by decide) (by decide) rfl dX11_init_95 ?_
    refine y_putF (i := 48) (fs := [.ref (z_ad g 49), .ref (z_ad g 50), .ref (z_ad g 51), .ref (z_ad g 52), .int 0, .int 0, .int 0, .ref (z_ad g 53), .ref (z_ad g 54), .int 0, .int 0, .long 0, .long 0, .ref (z_ad g 55), .int 0, .ref (z_ad g 56), .int 0, .int 0, .int 0, .int 0, .int 0, .int 0, .ref (z_ad g 57), .ref (z_ad g 58), .ref (z_ad g 59), .long 0, .null, .null, .int 0, .int 0, .int 0, .int 0, .null, .int 0, .int 0, .null, .int 0, .null, .null, .int 0, .int 0, .int 0, .null, .null, .null, .null]) (fs1 := [.ref (z_ad g 49), .ref (z_ad g 50), .ref (z_ad g 51), .ref (z_ad g 52), .int 0, .int 0, .int 0, .ref (z_ad g 53), .ref (z_ad g 54), .int 0, .int 0, .long 0, .long 0, .ref (z_ad g 55), .int 0, .ref (z_ad g 56), .int 0, .int 0, .int 0, .int 0, .int 0, .int 0, .ref (z_ad g 57), .ref (z_ad g 58), .ref (z_ad g 59), .long 0, .ref (z_ad g 60), .null, .int 0, .int 0, .int 0, .int 0, .null, .int 0, .int 0, .null, .int 0, .null, .null, .int 0, .int 0, .int 0, .null, .null, .null, .null]) (sh1 := w_X11_48_s24 g sh) cx z_cl11 (j := 26) (by decide) tb_153 rfl rfl ce'.2.2.1 rfl rfl rfl (by decide) rfl rfl rfl (Nat.le_of_ble_eq_true rfl) dX11_init_97 ?_
    refine y_aload_n cx rfl rfl dX11_init_100 ?_
    refine y_bipush (v := 6) cx (by decide +kernel) dX11_init_101 ?_
    refine y_newa_int (sh1 := w_X11_48_s25 g sh) cx tb_59 rfl (by decide +kernel) (by decide +kernel) (by decide) rfl rfl rfl (by decide) (by decide) rfl dX11_init_103 ?_
    refine y_putF (i := 48) (fs := [.ref (z_ad g 49), .ref (z_ad g 50), .ref (z_ad g 51), .ref (z_ad g 52), .int 0, .int 0, .int 0, .ref (z_ad g 53), .ref (z_ad g 54), .int 0, .int 0, .long 0, .long 0, .ref (z_ad g 55), .int 0, .ref (z_ad g 56), .int 0, .int 0, .int 0, .int 0, .int 0, .int 0, .ref (z_ad g 57), .ref (z_ad g 58), .ref (z_ad g 59), .long 0, .ref (z_ad g 60), .null, .int 0, .int 0, .int 0, .int 0, .null, .int 0, .int 0, .null, .int 0, .null, .null, .int 0, .int 0, .int 0, .null, .null, .null, .null]) (fs1 := [.ref (z_ad g 49), .ref (z_ad g 50), .ref (z_ad g 51), .ref (z_ad g 52), .int 0, .int 0, .int 0, .ref (z_ad g 53), .ref (z_ad g 54), .int 0, .int 0, .long 0, .long 0, .ref (z_ad g 55), .int 0, .ref (z_ad g 56), .int 0, .int 0, .int 0, .int 0, .int 0, .int 0, .ref (z_ad g 57), .ref (z_ad g 58), .ref (z_ad g 59), .long 0, .ref (z_ad g 60), .ref (z_ad g 61), .int 0, .int 0, .int 0, .int 0, .null, .int 0, .int 0, .null, .int 0, .null, .null, .int 0, .int 0, .int 0, .null, .null, .null, .null]) (sh1 := w_X11_48_s26 g sh) cx z_cl11 (j := 27) (by decide) tb_154 rfl rfl ce'.2.2.1 rfl rfl rfl (by decide) rfl rfl rfl (Nat.le_of_ble_eq_true rfl) dX11_init_105 ?_
    refine y_aload_n cx rfl rfl dX11_init_108 ?_
    refine y_iconst (v := 5) cx (by decide +kernel) dX11_init_109 ?_
    refine y_newa_int (sh1 := w_X11_48_s27 g sh) cx tb_59 rfl (by decide +kernel) (by decide +kernel) (by decide) rfl rfl rfl (by decide) (by decide) rfl dX11_init_110 ?_
    refine y_putF (i := 48) (fs := [.ref (z_ad g 49), .ref (z_ad g 50), .ref (z_ad g 51), .ref (z_ad g 52), .int 0, .int 0, .int 0, .ref (z_ad g 53), .ref (z_ad g 54), .int 0, .int 0, .long 0, .long 0, .ref (z_ad g 55), .int 0, .ref (z_ad g 56), .int 0, .int 0, .int 0, .int 0, .int 0, .int 0, .ref (z_ad g 57), .ref (z_ad g 58), .ref (z_ad g 59), .long 0, .ref (z_ad g 60), .ref (z_ad g 61), .int 0, .int 0, .int 0, .int 0, .null, .int 0, .int 0, .null, .int 0, .null, .null, .int 0, .int 0, .int 0, .null, .null, .null, .null]) (fs1 := [.ref (z_ad g 49), .ref (z_ad g 50), .ref (z_ad g 51), .ref (z_ad g 52), .int 0, .int 0, .int 0, .ref (z_ad g 53), .ref (z_ad g 54), .int 0, .int 0, .long 0, .long 0, .ref (z_ad g 55), .int 0, .ref (z_ad g 56), .int 0, .int 0, .int 0, .int 0, .int 0, .int 0, .ref (z_ad g 57), .ref (z_ad g 58), .ref (z_ad g 59), .long 0, .ref (z_ad g 60), .ref (z_ad g 61), .int 0, .int 0, .int 0, .int 0, .ref (z_ad g 62), .int 0, .int 0, .null, .int 0, .null, .null, .int 0, .int 0, .int 0, .null, .null, .null, .null]) (sh1 := w_X11_48_s28 g sh) cx z_cl11 (j := 32) (by decide) tb_155 rfl rfl ce'.2.2.1 rfl rfl rfl (by decide) rfl rfl rfl (Nat.le_of_ble_eq_true rfl) dX11_init_112 ?_
    refine y_aload_n cx rfl rfl dX11_init_115 ?_
    refine y_bipush (v := 21) cx (by decide +kernel) dX11_init_116 ?_
    refine y_newa_int (sh1 := w_X11_48_s29 g sh) cx tb_59 rfl (by decide +kernel) (by decide +kernel) (by decide) rfl rfl rfl (by decide) (by decide) rfl dX11_init_118 ?_
    refine y_putF (i := 48) (fs := [.ref (z_ad g 49), .ref (z_ad g 50), .ref (z_ad g 51), .ref (z_ad g 52), .int 0, .int 0, .int 0, .ref (z_ad g 53), .ref (z_ad g 54), .int 0, .int 0, .long 0, .long 0, .ref (z_ad g 55), .int 0, .ref (z_ad g 56), .int 0, .int 0, .int 0, .int 0, .int 0, .int 0, .ref (z_ad g 57), .ref (z_ad g 58), .ref (z_ad g 59), .long 0, .ref (z_ad g 60), .ref (z_ad g 61), .int 0, .int 0, .int 0, .int 0, .ref (z_ad g 62), .int 0, .int 0, .null, .int 0, .null, .null, .int 0, .int 0, .int 0, .null, .null, .null, .null]) (fs1 := [.ref (z_ad g 49), .ref (z_ad g 50), .ref (z_ad g 51), .ref (z_ad g 52), .int 0, .int 0, .int 0, .ref (z_ad g 53), .ref (z_ad g 54), .int 0, .int 0, .long 0, .long 0, .ref (z_ad g 55), .int 0, .ref (z_ad g 56), .int 0, .int 0, .int 0, .int 0, .int 0, .int 0, .ref (z_ad g 57), .ref (z_ad g 58), .ref (z_ad g 59), .long 0, .ref (z_ad g 60), .ref (z_ad g 61), .int 0, .int 0, .int 0, .int 0, .ref (z_ad g 62), .int 0, .int 0, .ref (z_ad g 63), .int 0, .null, .null, .int 0, .int 0, .int 0, .null, .null, .null, .null]) (sh1 := w_X11_48_s30 g sh) cx z_cl11 (j := 35) (by decide) tb_156 rfl rfl ce'.2.2.1 rfl rfl rfl (by decide) rfl rfl rfl (Nat.le_of_ble_eq_true rfl) dX11_init_120 ?_
    refine y_aload_n cx rfl rfl dX11_init_123 ?_
    refine y_bipush (v := 50) cx (by decide +kernel) dX11_init_124 ?_
    refine y_newa_int (sh1 := w_X11_48_s31 g sh) cx tb_59 rfl (by decide +kernel) (by decide +kernel) (by decide) rfl rfl rfl (by decide) (by decide) rfl dX11_init_126 ?_
    refine y_putF (i := 48) (fs := [.ref (z_ad g 49), .ref (z_ad g 50), .ref (z_ad g 51), .ref (z_ad g 52), .int 0, .int 0, .int 0, .ref (z_ad g 53), .ref (z_ad g 54), .int 0, .int 0, .long 0, .long 0, .ref (z_ad g 55), .int 0, .ref (z_ad g 56), .int 0, .int 0, .int 0, .int 0, .int 0, .int 0, .ref (z_ad g 57), .ref (z_ad g 58), .ref (z_ad g 59), .long 0, .ref (z_ad g 60), .ref (z_ad g 61), .int 0, .int 0, .int 0, .int 0, .ref (z_ad g 62), .int 0, .int 0, .ref (z_ad g 63), .int 0, .null, .null, .int 0, .int 0, .int 0, .null, .null, .null, .null]) (fs1 := [.ref (z_ad g 49), .ref (z_ad g 50), .ref (z_ad g 51), .ref (z_ad g 52), .int 0, .int 0, .int 0, .ref (z_ad g 53), .ref (z_ad g 54), .int 0, .int 0, .long 0, .long 0, .ref (z_ad g 55), .int 0, .ref (z_ad g 56), .int 0, .int 0, .int 0, .int 0, .int 0, .int 0, .ref (z_ad g 57), .ref (z_ad g 58), .ref (z_ad g 59), .long 0, .ref (z_ad g 60), .ref (z_ad g 61), .int 0, .int 0, .int 0, .int 0, .ref (z_ad g 62), .int 0, .int 0, .ref (z_ad g 63), .int 0, .ref (z_ad g 64), .null, .int 0, .int 0, .int 0, .null, .null, .null, .null]) (sh1 := w_X11_48_s32 g sh) cx z_cl11 (j := 37) (by decide) tb_157 rfl rfl ce'.2.2.1 rfl rfl rfl (by decide) rfl rfl rfl (Nat.le_of_ble_eq_true rfl) dX11_init_128 ?_
    refine y_aload_n cx rfl rfl dX11_init_131 ?_
    refine y_bipush (v := 24) cx (by decide +kernel) dX11_init_132 ?_
    refine y_newa_int (sh1 := w_X11_48_s33 g sh) cx tb_59 rfl (by decide +kernel) (by decide +kernel) (by decide) rfl rfl rfl (by decide) (by decide) rfl dX11_init_134 ?_
    refine y_putF (i := 48) (fs := [.ref (z_ad g 49), .ref (z_ad g 50), .ref (z_ad g 51), .ref (z_ad g 52), .int 0, .int 0, .int 0, .ref (z_ad g 53), .ref (z_ad g 54), .int 0, .int 0, .long 0, .long 0, .ref (z_ad g 55), .int 0, .ref (z_ad g 56), .int 0, .int 0, .int 0, .int 0, .int 0, .int 0, .ref (z_ad g 57), .ref (z_ad g 58), .ref (z_ad g 59), .long 0, .ref (z_ad g 60), .ref (z_ad g 61), .int 0, .int 0, .int 0, .int 0, .ref (z_ad g 62), .int 0, .int 0, .ref (z_ad g 63), .int 0, .ref (z_ad g 64), .null, .int 0, .int 0, .int 0, .null, .null, .null, .null]) (fs1 := [.ref (z_ad g 49), .ref (z_ad g 50), .ref (z_ad g 51), .ref (z_ad g 52), .int 0, .int 0, .int 0, .ref (z_ad g 53), .ref (z_ad g 54), .int 0, .int 0, .long 0, .long 0, .ref (z_ad g 55), .int 0, .ref (z_ad g 56), .int 0, .int 0, .int 0, .int 0, .int 0, .int 0, .ref (z_ad g 57), .ref (z_ad g 58), .ref (z_ad g 59), .long 0, .ref (z_ad g 60), .ref (z_ad g 61), .int 0, .int 0, .int 0, .int 0, .ref (z_ad g 62), .int 0, .int 0, .ref (z_ad g 63), .int 0, .ref (z_ad g 64), .ref (z_ad g 65), .int 0, .int 0, .int 0, .null, .null, .null, .null]) (sh1 := w_X11_48_s34 g sh) cx z_cl11 (j := 38) (by decide) tb_158 rfl rfl ce'.2.2.1 rfl rfl rfl (by decide) rfl rfl rfl (Nat.le_of_ble_eq_true rfl) dX11_init_136 ?_
    refine y_aload_n cx rfl rfl dX11_init_139 ?_
    refine y_bipush (v := 6) cx (by decide +kernel) dX11_init_140 ?_
    refine y_newa_int (sh1 := w_X11_48_s35 g sh) cx tb_59 rfl (by decide +kernel) (by decide +kernel) (by decide) rfl rfl rfl (by decide) (by decide) rfl dX11_init_142 ?_
    refine y_putF (i := 48) (fs := [.ref (z_ad g 49), .ref (z_ad g 50), .ref (z_ad g 51), .ref (z_ad g 52), .int 0, .int 0, .int 0, .ref (z_ad g 53), .ref (z_ad g 54), .int 0, .int 0, .long 0, .long 0, .ref (z_ad g 55), .int 0, .ref (z_ad g 56), .int 0, .int 0, .int 0, .int 0, .int 0, .int 0, .ref (z_ad g 57), .ref (z_ad g 58), .ref (z_ad g 59), .long 0, .ref (z_ad g 60), .ref (z_ad g 61), .int 0, .int 0, .int 0, .int 0, .ref (z_ad g 62), .int 0, .int 0, .ref (z_ad g 63), .int 0, .ref (z_ad g 64), .ref (z_ad g 65), .int 0, .int 0, .int 0, .null, .null, .null, .null]) (fs1 := [.ref (z_ad g 49), .ref (z_ad g 50), .ref (z_ad g 51), .ref (z_ad g 52), .int 0, .int 0, .int 0, .ref (z_ad g 53), .ref (z_ad g 54), .int 0, .int 0, .long 0, .long 0, .ref (z_ad g 55), .int 0, .ref (z_ad g 56), .int 0, .int 0, .int 0, .int 0, .int 0, .int 0, .ref (z_ad g 57), .ref (z_ad g 58), .ref (z_ad g 59), .long 0, .ref (z_ad g 60), .ref (z_ad g 61), .int 0, .int 0, .int 0, .int 0, .ref (z_ad g 62), .int 0, .int 0, .ref (z_ad g 63), .int 0, .ref (z_ad g 64), .ref (z_ad g 65), .int 0, .int 0, .int 0, .ref (z_ad g 66), .null, .null, .null]) (sh1 := w_X11_48_s36 g sh) cx z_cl11 (j := 42) (by decide) tb_159 rfl rfl ce'.2.2.1 rfl rfl rfl (by decide) rfl rfl rfl (Nat.le_of_ble_eq_true rfl) dX11_init_144 ?_
    refine y_aload_n cx rfl rfl dX11_init_147 ?_
    refine y_bipush (v := 6) cx (by decide +kernel) dX11_init_148 ?_
    refine y_newa_int (sh1 := w_X11_48_s37 g sh) cx tb_59 rfl (by decide +kernel) (by decide +kernel) (by decide) rfl rfl rfl (by decide) (by decide) rfl dX11_init_150 ?_
    refine y_putF (i := 48) (fs := [.ref (z_ad g 49), .ref (z_ad g 50), .ref (z_ad g 51), .ref (z_ad g 52), .int 0, .int 0, .int 0, .ref (z_ad g 53), .ref (z_ad g 54), .int 0, .int 0, .long 0, .long 0, .ref (z_ad g 55), .int 0, .ref (z_ad g 56), .int 0, .int 0, .int 0, .int 0, .int 0, .int 0, .ref (z_ad g 57), .ref (z_ad g 58), .ref (z_ad g 59), .long 0, .ref (z_ad g 60), .ref (z_ad g 61), .int 0, .int 0, .int 0, .int 0, .ref (z_ad g 62), .int 0, .int 0, .ref (z_ad g 63), .int 0, .ref (z_ad g 64), .ref (z_ad g 65), .int 0, .int 0, .int 0, .ref (z_ad g 66), .null, .null, .null]) (fs1 := [.ref (z_ad g 49), .ref (z_ad g 50), .ref (z_ad g 51), .ref (z_ad g 52), .int 0, .int 0, .int 0, .ref (z_ad g 53), .ref (z_ad g 54), .int 0, .int 0, .long 0, .long 0, .ref (z_ad g 55), .int 0, .ref (z_ad g 56), .int 0, .int 0, .int 0, .int 0, .int 0, .int 0, .ref (z_ad g 57), .ref (z_ad g 58), .ref (z_ad g 59), .long 0, .ref (z_ad g 60), .ref (z_ad g 61), .int 0, .int 0, .int 0, .int 0, .ref (z_ad g 62), .int 0, .int 0, .ref (z_ad g 63), .int 0, .ref (z_ad g 64), .ref (z_ad g 65), .int 0, .int 0, .int 0, .ref (z_ad g 66), .ref (z_ad g 67), .null, .null]) (sh1 := w_X11_48_s38 g sh) cx z_cl11 (j := 43) (by decide) tb_160 rfl rfl ce'.2.2.1 rfl rfl rfl (by decide) rfl rfl rfl (Nat.le_of_ble_eq_true rfl) dX11_init_152 ?_
    refine y_aload_n cx rfl rfl dX11_init_155 ?_
    refine y_sipush (v := 360) cx (by decide +kernel) dX11_init_156 ?_
    refine y_newa_long (sh1 := w_X11_48_s39 g sh) cx tb_103 rfl (by decide +kernel) (by decide +kernel) (by decide) rfl rfl rfl (by decide) (by decide) rfl dX11_init_159 ?_
    refine y_putF (i := 48) (fs := [.ref (z_ad g 49), .ref (z_ad g 50), .ref (z_ad g 51), .ref (z_ad g 52), .int 0, .int 0, .int 0, .ref (z_ad g 53), .ref (z_ad g 54), .int 0, .int 0, .long 0, .long 0, .ref (z_ad g 55), .int 0, .ref (z_ad g 56), .int 0, .int 0, .int 0, .int 0, .int 0, .int 0, .ref (z_ad g 57), .ref (z_ad g 58), .ref (z_ad g 59), .long 0, .ref (z_ad g 60), .ref (z_ad g 61), .int 0, .int 0, .int 0, .int 0, .ref (z_ad g 62), .int 0, .int 0, .ref (z_ad g 63), .int 0, .ref (z_ad g 64), .ref (z_ad g 65), .int 0, .int 0, .int 0, .ref (z_ad g 66), .ref (z_ad g 67), .null, .null]) (fs1 := [.ref (z_ad g 49), .ref (z_ad g 50), .ref (z_ad g 51), .ref (z_ad g 52), .int 0, .int 0, .int 0, .ref (z_ad g 53), .ref (z_ad g 54), .int 0, .int 0, .long 0, .long 0, .ref (z_ad g 55), .int 0, .ref (z_ad g 56), .int 0, .int 0, .int 0, .int 0, .int 0, .int 0, .ref (z_ad g 57), .ref (z_ad g 58), .ref (z_ad g 59), .long 0, .ref (z_ad g 60), .ref (z_ad g 61), .int 0, .int 0, .int 0, .int 0, .ref (z_ad g 62), .int 0, .int 0, .ref (z_ad g 63), .int 0, .ref (z_ad g 64), .ref (z_ad g 65), .int 0, .int 0, .int 0, .ref (z_ad g 66), .ref (z_ad g 67), .ref (z_ad g 68), .null]) (sh1 := w_X11_48_s40 g sh) cx z_cl11 (j := 44) (by decide) tb_161 rfl rfl ce'.2.2.1 rfl rfl rfl (by decide) rfl rfl rfl (Nat.le_of_ble_eq_true rfl) dX11_init_161 ?_
    refine y_aload_n cx rfl rfl dX11_init_164 ?_
    refine y_bipush (v := 60) cx (by decide +kernel) dX11_init_165 ?_
    refine y_newa_long (sh1 := w_X11_48_s41 g sh) cx tb_103 rfl (by decide +kernel) (by decide +kernel) (by decide) rfl rfl rfl (by decide) (by decide) rfl dX11_init_167 ?_
    refine y_putF (i := 48) (fs := [.ref (z_ad g 49), .ref (z_ad g 50), .ref (z_ad g 51), .ref (z_ad g 52), .int 0, .int 0, .int 0, .ref (z_ad g 53), .ref (z_ad g 54), .int 0, .int 0, .long 0, .long 0, .ref (z_ad g 55), .int 0, .ref (z_ad g 56), .int 0, .int 0, .int 0, .int 0, .int 0, .int 0, .ref (z_ad g 57), .ref (z_ad g 58), .ref (z_ad g 59), .long 0, .ref (z_ad g 60), .ref (z_ad g 61), .int 0, .int 0, .int 0, .int 0, .ref (z_ad g 62), .int 0, .int 0, .ref (z_ad g 63), .int 0, .ref (z_ad g 64), .ref (z_ad g 65), .int 0, .int 0, .int 0, .ref (z_ad g 66), .ref (z_ad g 67), .ref (z_ad g 68), .null]) (fs1 := [.ref (z_ad g 49), .ref (z_ad g 50), .ref (z_ad g 51), .ref (z_ad g 52), .int 0, .int 0, .int 0, .ref (z_ad g 53), .ref (z_ad g 54), .int 0, .int 0, .long 0, .long 0, .ref (z_ad g 55), .int 0, .ref (z_ad g 56), .int 0, .int 0, .int 0, .int 0, .int 0, .int 0, .ref (z_ad g 57), .ref (z_ad g 58), .ref (z_ad g 59), .long 0, .ref (z_ad g 60), .ref (z_ad g 61), .int 0, .int 0, .int 0, .int 0, .ref (z_ad g 62), .int 0, .int 0, .ref (z_ad g 63), .int 0, .ref (z_ad g 64), .ref (z_ad g 65), .int 0, .int 0, .int 0, .ref (z_ad g 66), .ref (z_ad g 67), .ref (z_ad g 68), .ref (z_ad g 69)]) (sh1 := w_X11_48_s42 g sh) cx z_cl11 (j := 45) (by decide) tb_162 rfl rfl ce'.2.2.1 rfl rfl rfl (by decide) rfl rfl rfl (Nat.le_of_ble_eq_true rfl) dX11_init_169 ?_
    refine y_iconst (v := 0) cx (by decide +kernel) dX11_init_172 ?_
    refine y_istore_n (L' := [some (.ref (z_ad g 48)), some (.int 0)]) cx rfl (by decide) rfl dX11_init_173 ?_
    refine y_iload_n cx rfl rfl dX11_init_174 ?_
    refine y_bipush (v := 6) cx (by decide +kernel) dX11_init_175 ?_
    refine y_ge_f (tgt := 193) cx (by decide +kernel) (by decide) dX11_init_177 ?_
    refine y_aload_n cx rfl rfl dX11_init_180 ?_
    refine y_getf (i := 48) (fs := [.ref (z_ad g 49), .ref (z_ad g 50), .ref (z_ad g 51), .ref (z_ad g 52), .int 0, .int 0, .int 0, .ref (z_ad g 53), .ref (z_ad g 54), .int 0, .int 0, .long 0, .long 0, .ref (z_ad g 55), .int 0, .ref (z_ad g 56), .int 0, .int 0, .int 0, .int 0, .int 0, .int 0, .ref (z_ad g 57), .ref (z_ad g 58), .ref (z_ad g 59), .long 0, .ref (z_ad g 60), .ref (z_ad g 61), .int 0, .int 0, .int 0, .int 0, .ref (z_ad g 62), .int 0, .int 0, .ref (z_ad g 63), .int 0, .ref (z_ad g 64), .ref (z_ad g 65), .int 0, .int 0, .int 0, .ref (z_ad g 66), .ref (z_ad g 67), .ref (z_ad g 68), .ref (z_ad g 69)]) (v := .ref (z_ad g 66)) cx z_cl11 (j := 42) (by decide) tb_159 rfl (by decide) rfl rfl dX11_init_181 ?_
    refine y_iload_n cx rfl rfl dX11_init_184 ?_
    refine y_iconst (v := (-1)) cx (by decide +kernel) dX11_init_185 ?_
    refine y_iast (q := 66) (n := 6) (m := 0) (f := (fun _ => 0)) (f1 := wf_X11_48_1) (sh1 := w_X11_48_s43 g sh) cx (by decide) rfl (vp_in_lit (by decide +kernel)) (by decide +kernel) rfl rfl dX11_init_186 ?_
    refine y_iinc (c := 1) (L' := [some (.ref (z_ad g 48)), some (.int 1)]) cx rfl (by decide +kernel) (by decide) rfl dX11_init_187 ?_
    refine y_goto (tgt := 174) cx (by decide) dX11_init_190 ?_
    refine y_iload_n cx rfl rfl dX11_init_174 ?_
    refine y_bipush (v := 6) cx (by decide +kernel) dX11_init_175 ?_
    refine y_ge_f (tgt := 193) cx (by decide +kernel) (by decide) dX11_init_177 ?_
    refine y_aload_n cx rfl rfl dX11_init_180 ?_
    refine y_getf (i := 48) (fs := [.ref (z_ad g 49), .ref (z_ad g 50), .ref (z_ad g 51), .ref (z_ad g 52), .int 0, .int 0, .int 0, .ref (z_ad g 53), .ref (z_ad g 54), .int 0, .int 0, .long 0, .long 0, .ref (z_ad g 55), .int 0, .ref (z_ad g 56), .int 0, .int 0, .int 0, .int 0, .int 0, .int 0, .ref (z_ad g 57), .ref (z_ad g 58), .ref (z_ad g 59), .long 0, .ref (z_ad g 60), .ref (z_ad g 61), .int 0, .int 0, .int 0, .int 0, .ref (z_ad g 62), .int 0, .int 0, .ref (z_ad g 63), .int 0, .ref (z_ad g 64), .ref (z_ad g 65), .int 0, .int 0, .int 0, .ref (z_ad g 66), .ref (z_ad g 67), .ref (z_ad g 68), .ref (z_ad g 69)]) (v := .ref (z_ad g 66)) cx z_cl11 (j := 42) (by decide) tb_159 rfl (by decide) rfl rfl dX11_init_181 ?_
    refine y_iload_n cx rfl rfl dX11_init_184 ?_
    refine y_iconst (v := (-1)) cx (by decide +kernel) dX11_init_185 ?_
    refine y_iast (q := 66) (n := 6) (m := 1) (f := wf_X11_48_1) (f1 := wf_X11_48_2) (sh1 := w_X11_48_s44 g sh) cx (by decide) rfl (vp_in_lit (by decide +kernel)) (by decide +kernel) rfl rfl dX11_init_186 ?_
    refine y_iinc (c := 2) (L' := [some (.ref (z_ad g 48)), some (.int 2)]) cx rfl (by decide +kernel) (by decide) rfl dX11_init_187 ?_
    refine y_goto (tgt := 174) cx (by decide) dX11_init_190 ?_
    refine y_iload_n cx rfl rfl dX11_init_174 ?_
    refine y_bipush (v := 6) cx (by decide +kernel) dX11_init_175 ?_
    refine y_ge_f (tgt := 193) cx (by decide +kernel) (by decide) dX11_init_177 ?_
    refine y_aload_n cx rfl rfl dX11_init_180 ?_
    refine y_getf (i := 48) (fs := [.ref (z_ad g 49), .ref (z_ad g 50), .ref (z_ad g 51), .ref (z_ad g 52), .int 0, .int 0, .int 0, .ref (z_ad g 53), .ref (z_ad g 54), .int 0, .int 0, .long 0, .long 0, .ref (z_ad g 55), .int 0, .ref (z_ad g 56), .int 0, .int 0, .int 0, .int 0, .int 0, .int 0, .ref (z_ad g 57), .ref (z_ad g 58), .ref (z_ad g 59), .long 0, .ref (z_ad g 60), .ref (z_ad g 61), .int 0, .int 0, .int 0, .int 0, .ref (z_ad g 62), .int 0, .int 0, .ref (z_ad g 63), .int 0, .ref (z_ad g 64), .ref (z_ad g 65), .int 0, .int 0, .int 0, .ref (z_ad g 66), .ref (z_ad g 67), .ref (z_ad g 68), .ref (z_ad g 69)]) (v := .ref (z_ad g 66)) cx z_cl11 (j := 42) (by decide) tb_159 rfl (by decide) rfl rfl dX11_init_181 ?_
    refine y_iload_n cx rfl rfl dX11_init_184 ?_
    refine y_iconst (v := (-1)) cx (by decide +kernel) dX11_init_185 ?_
    refine y_iast (q := 66) (n := 6) (m := 2) (f := wf_X11_48_2) (f1 := wf_X11_48_3) (sh1 := w_X11_48_s45 g sh) cx (by decide) rfl (vp_in_lit (by decide +kernel)) (by decide +kernel) rfl rfl dX11_init_186 ?_
    refine y_iinc (c := 3) (L' := [some (.ref (z_ad g 48)), some (.int 3)]) cx rfl (by decide +kernel) (by decide) rfl dX11_init_187 ?_
    refine y_goto (tgt := 174) cx (by decide) dX11_init_190 ?_
    refine y_iload_n cx rfl rfl dX11_init_174 ?_
    refine y_bipush (v := 6) cx (by decide +kernel) dX11_init_175 ?_
    refine y_ge_f (tgt := 193) cx (by decide +kernel) (by decide) dX11_init_177 ?_
    refine y_aload_n cx rfl rfl dX11_init_180 ?_
    refine y_getf (i := 48) (fs := [.ref (z_ad g 49), .ref (z_ad g 50), .ref (z_ad g 51), .ref (z_ad g 52), .int 0, .int 0, .int 0, .ref (z_ad g 53), .ref (z_ad g 54), .int 0, .int 0, .long 0, .long 0, .ref (z_ad g 55), .int 0, .ref (z_ad g 56), .int 0, .int 0, .int 0, .int 0, .int 0, .int 0, .ref (z_ad g 57), .ref (z_ad g 58), .ref (z_ad g 59), .long 0, .ref (z_ad g 60), .ref (z_ad g 61), .int 0, .int 0, .int 0, .int 0, .ref (z_ad g 62), .int 0, .int 0, .ref (z_ad g 63), .int 0, .ref (z_ad g 64), .ref (z_ad g 65), .int 0, .int 0, .int 0, .ref (z_ad g 66), .ref (z_ad g 67), .ref (z_ad g 68), .ref (z_ad g 69)]) (v := .ref (z_ad g 66)) cx z_cl11 (j := 42) (by decide) tb_159 rfl (by decide) rfl rfl dX11_init_181 ?_
    refine y_iload_n cx rfl rfl dX11_init_184 ?_
    refine y_iconst (v := (-1)) cx (by decide +kernel) dX11_init_185 ?_
    refine y_iast (q := 66) (n := 6) (m := 3) (f := wf_X11_48_3) (f1 := wf_X11_48_4) (sh1 := w_X11_48_s46 g sh) cx (by decide) rfl (vp_in_lit (by decide +kernel)) (by decide +kernel) rfl rfl dX11_init_186 ?_
    refine y_iinc (c := 4) (L' := [some (.ref (z_ad g 48)), some (.int 4)]) cx rfl (by decide +kernel) (by decide) rfl dX11_init_187 ?_
    refine y_goto (tgt := 174) cx (by decide) dX11_init_190 ?_
    refine y_iload_n cx rfl rfl dX11_init_174 ?_
    refine y_bipush (v := 6) cx (by decide +kernel) dX11_init_175 ?_
    refine y_ge_f (tgt := 193) cx (by decide +kernel) (by decide) dX11_init_177 ?_
    refine y_aload_n cx rfl rfl dX11_init_180 ?_
    refine y_getf (i := 48) (fs := [.ref (z_ad g 49), .ref (z_ad g 50), .ref (z_ad g 51), .ref (z_ad g 52), .int 0, .int 0, .int 0, .ref (z_ad g 53), .ref (z_ad g 54), .int 0, .int 0, .long 0, .long 0, .ref (z_ad g 55), .int 0, .ref (z_ad g 56), .int 0, .int 0, .int 0, .int 0, .int 0, .int 0, .ref (z_ad g 57), .ref (z_ad g 58), .ref (z_ad g 59), .long 0, .ref (z_ad g 60), .ref (z_ad g 61), .int 0, .int 0, .int 0, .int 0, .ref (z_ad g 62), .int 0, .int 0, .ref (z_ad g 63), .int 0, .ref (z_ad g 64), .ref (z_ad g 65), .int 0, .int 0, .int 0, .ref (z_ad g 66), .ref (z_ad g 67), .ref (z_ad g 68), .ref (z_ad g 69)]) (v := .ref (z_ad g 66)) cx z_cl11 (j := 42) (by decide) tb_159 rfl (by decide) rfl rfl dX11_init_181 ?_
    refine y_iload_n cx rfl rfl dX11_init_184 ?_
    refine y_iconst (v := (-1)) cx (by decide +kernel) dX11_init_185 ?_
    refine y_iast (q := 66) (n := 6) (m := 4) (f := wf_X11_48_4) (f1 := wf_X11_48_5) (sh1 := w_X11_48_s47 g sh) cx (by decide) rfl (vp_in_lit (by decide +kernel)) (by decide +kernel) rfl rfl dX11_init_186 ?_
    refine y_iinc (c := 5) (L' := [some (.ref (z_ad g 48)), some (.int 5)]) cx rfl (by decide +kernel) (by decide) rfl dX11_init_187 ?_
    refine y_goto (tgt := 174) cx (by decide) dX11_init_190 ?_
    refine y_iload_n cx rfl rfl dX11_init_174 ?_
    refine y_bipush (v := 6) cx (by decide +kernel) dX11_init_175 ?_
    refine y_ge_f (tgt := 193) cx (by decide +kernel) (by decide) dX11_init_177 ?_
    refine y_aload_n cx rfl rfl dX11_init_180 ?_
    refine y_getf (i := 48) (fs := [.ref (z_ad g 49), .ref (z_ad g 50), .ref (z_ad g 51), .ref (z_ad g 52), .int 0, .int 0, .int 0, .ref (z_ad g 53), .ref (z_ad g 54), .int 0, .int 0, .long 0, .long 0, .ref (z_ad g 55), .int 0, .ref (z_ad g 56), .int 0, .int 0, .int 0, .int 0, .int 0, .int 0, .ref (z_ad g 57), .ref (z_ad g 58), .ref (z_ad g 59), .long 0, .ref (z_ad g 60), .ref (z_ad g 61), .int 0, .int 0, .int 0, .int 0, .ref (z_ad g 62), .int 0, .int 0, .ref (z_ad g 63), .int 0, .ref (z_ad g 64), .ref (z_ad g 65), .int 0, .int 0, .int 0, .ref (z_ad g 66), .ref (z_ad g 67), .ref (z_ad g 68), .ref (z_ad g 69)]) (v := .ref (z_ad g 66)) cx z_cl11 (j := 42) (by decide) tb_159 rfl (by decide) rfl rfl dX11_init_181 ?_
    refine y_iload_n cx rfl rfl dX11_init_184 ?_
    refine y_iconst (v := (-1)) cx (by decide +kernel) dX11_init_185 ?_
    refine y_iast (q := 66) (n := 6) (m := 5) (f := wf_X11_48_5) (f1 := wf_X11_48_6) (sh1 := w_X11_48_s48 g sh) cx (by decide) rfl (vp_in_lit (by decide +kernel)) (by decide +kernel) rfl rfl dX11_init_186 ?_
    refine y_iinc (c := 6) (L' := [some (.ref (z_ad g 48)), some (.int 6)]) cx rfl (by decide +kernel) (by decide) rfl dX11_init_187 ?_
    refine y_goto (tgt := 174) cx (by decide) dX11_init_190 ?_
    refine y_iload_n cx rfl rfl dX11_init_174 ?_
    refine y_bipush (v := 6) cx (by decide +kernel) dX11_init_175 ?_
    refine y_ge_t (tgt := 193) cx (by decide +kernel) (by decide) dX11_init_177 ?_
    refine y_aload_n cx rfl rfl dX11_init_193 ?_
    refine y_iconst (v := (-1)) cx (by decide +kernel) dX11_init_194 ?_
    refine y_putf (i := 48) (fs := [.ref (z_ad g 49), .ref (z_ad g 50), .ref (z_ad g 51), .ref (z_ad g 52), .int 0, .int 0, .int 0, .ref (z_ad g 53), .ref (z_ad g 54), .int 0, .int 0, .long 0, .long 0, .ref (z_ad g 55), .int 0, .ref (z_ad g 56), .int 0, .int 0, .int 0, .int 0, .int 0, .int 0, .ref (z_ad g 57), .ref (z_ad g 58), .ref (z_ad g 59), .long 0, .ref (z_ad g 60), .ref (z_ad g 61), .int 0, .int 0, .int 0, .int 0, .ref (z_ad g 62), .int 0, .int 0, .ref (z_ad g 63), .int 0, .ref (z_ad g 64), .ref (z_ad g 65), .int 0, .int 0, .int 0, .ref (z_ad g 66), .ref (z_ad g 67), .ref (z_ad g 68), .ref (z_ad g 69)]) (fs1 := [.ref (z_ad g 49), .ref (z_ad g 50), .ref (z_ad g 51), .ref (z_ad g 52), .int 0, .int 0, .int 0, .ref (z_ad g 53), .ref (z_ad g 54), .int 0, .int 0, .long 0, .long 0, .ref (z_ad g 55), .int 0, .ref (z_ad g 56), .int (-1), .int 0, .int 0, .int 0, .int 0, .int 0, .ref (z_ad g 57), .ref (z_ad g 58), .ref (z_ad g 59), .long 0, .ref (z_ad g 60), .ref (z_ad g 61), .int 0, .int 0, .int 0, .int 0, .ref (z_ad g 62), .int 0, .int 0, .ref (z_ad g 63), .int 0, .ref (z_ad g 64), .ref (z_ad g 65), .int 0, .int 0, .int 0, .ref (z_ad g 66), .ref (z_ad g 67), .ref (z_ad g 68), .ref (z_ad g 69)]) (sh1 := w_X11_48_s49 g sh) cx z_cl11 (j := 16) (by decide) tb_163 rfl rfl rfl rfl (by decide) rfl rfl rfl (Nat.le_of_ble_eq_true rfl) dX11_init_195 ?_
    refine y_aload_n cx rfl rfl dX11_init_198 ?_
    refine y_getf (i := 48) (fs := [.ref (z_ad g 49), .ref (z_ad g 50), .ref (z_ad g 51), .ref (z_ad g 52), .int 0, .int 0, .int 0, .ref (z_ad g 53), .ref (z_ad g 54), .int 0, .int 0, .long 0, .long 0, .ref (z_ad g 55), .int 0, .ref (z_ad g 56), .int (-1), .int 0, .int 0, .int 0, .int 0, .int 0, .ref (z_ad g 57), .ref (z_ad g 58), .ref (z_ad g 59), .long 0, .ref (z_ad g 60), .ref (z_ad g 61), .int 0, .int 0, .int 0, .int 0, .ref (z_ad g 62), .int 0, .int 0, .ref (z_ad g 63), .int 0, .ref (z_ad g 64), .ref (z_ad g 65), .int 0, .int 0, .int 0, .ref (z_ad g 66), .ref (z_ad g 67), .ref (z_ad g 68), .ref (z_ad g 69)]) (v := .ref (z_ad g 49)) cx z_cl11 (j := 0) (by decide) tb_141 rfl (by decide) rfl rfl dX11_init_199 ?_
    refine y_bipush (v := 36) cx (by decide +kernel) dX11_init_202 ?_
    refine y_iconst (v := 1) cx (by decide +kernel) dX11_init_204 ?_
    refine y_iast (q := 49) (n := 75) (m := 36) (f := (fun _ => 0)) (f1 := wf_X11_48_7) (sh1 := w_X11_48_s50 g sh) cx (by decide) rfl (vp_in_lit (by decide +kernel)) (by decide +kernel) rfl rfl dX11_init_205 ?_
    refine y_aload_n cx rfl rfl dX11_init_206 ?_
    refine y_getf (i := 48) (fs := [.ref (z_ad g 49), .ref (z_ad g 50), .ref (z_ad g 51), .ref (z_ad g 52), .int 0, .int 0, .int 0, .ref (z_ad g 53), .ref (z_ad g 54), .int 0, .int 0, .long 0, .long 0, .ref (z_ad g 55), .int 0, .ref (z_ad g 56), .int (-1), .int 0, .int 0, .int 0, .int 0, .int 0, .ref (z_ad g 57), .ref (z_ad g 58), .ref (z_ad g 59), .long 0, .ref (z_ad g 60), .ref (z_ad g 61), .int 0, .int 0, .int 0, .int 0, .ref (z_ad g 62), .int 0, .int 0, .ref (z_ad g 63), .int 0, .ref (z_ad g 64), .ref (z_ad g 65), .int 0, .int 0, .int 0, .ref (z_ad g 66), .ref (z_ad g 67), .ref (z_ad g 68), .ref (z_ad g 69)]) (v := .ref (z_ad g 49)) cx z_cl11 (j := 0) (by decide) tb_141 rfl (by decide) rfl rfl dX11_init_207 ?_
    refine y_bipush (v := 38) cx (by decide +kernel) dX11_init_210 ?_
    refine y_iconst (v := 5) cx (by decide +kernel) dX11_init_212 ?_
    refine y_iast (q := 49) (n := 75) (m := 38) (f := wf_X11_48_7) (f1 := wf_X11_48_8) (sh1 := w_X11_48_s51 g sh) cx (by decide) rfl (vp_in_lit (by decide +kernel)) (by decide +kernel) rfl rfl dX11_init_213 ?_
    refine y_iconst (v := 0) cx (by decide +kernel) dX11_init_214 ?_
    refine y_istore_n (L' := [some (.ref (z_ad g 48)), some (.int 0)]) cx rfl (by decide) rfl dX11_init_215 ?_
    refine y_iload_n cx rfl rfl dX11_init_216 ?_
    refine y_bipush (v := 36) cx (by decide +kernel) dX11_init_217 ?_
    refine y_ge_f (tgt := 239) cx (by decide +kernel) (by decide) dX11_init_219 ?_
    refine y_aload_n cx rfl rfl dX11_init_222 ?_
    refine y_getf (i := 48) (fs := [.ref (z_ad g 49), .ref (z_ad g 50), .ref (z_ad g 51), .ref (z_ad g 52), .int 0, .int 0, .int 0, .ref (z_ad g 53), .ref (z_ad g 54), .int 0, .int 0, .long 0, .long 0, .ref (z_ad g 55), .int 0, .ref (z_ad g 56), .int (-1), .int 0, .int 0, .int 0, .int 0, .int 0, .ref (z_ad g 57), .ref (z_ad g 58), .ref (z_ad g 59), .long 0, .ref (z_ad g 60), .ref (z_ad g 61), .int 0, .int 0, .int 0, .int 0, .ref (z_ad g 62), .int 0, .int 0, .ref (z_ad g 63), .int 0, .ref (z_ad g 64), .ref (z_ad g 65), .int 0, .int 0, .int 0, .ref (z_ad g 66), .ref (z_ad g 67), .ref (z_ad g 68), .ref (z_ad g 69)]) (v := .ref (z_ad g 49)) cx z_cl11 (j := 0) (by decide) tb_141 rfl (by decide) rfl rfl dX11_init_223 ?_
    refine y_bipush (v := 39) cx (by decide +kernel) dX11_init_226 ?_
    refine y_iload_n cx rfl rfl dX11_init_228 ?_
    refine y_iadd (v := 39) cx (by decide +kernel) dX11_init_229 ?_
    refine y_bipush (v := 9) cx (by decide +kernel) dX11_init_230 ?_
    refine y_iast (q := 49) (n := 75) (m := 39) (f := wf_X11_48_8) (f1 := wf_X11_48_9) (sh1 := w_X11_48_s52 g sh) cx (by decide) rfl (vp_in_lit (by decide +kernel)) (by decide +kernel) rfl rfl dX11_init_232 ?_
    refine y_iinc (c := 1) (L' := [some (.ref (z_ad g 48)), some (.int 1)]) cx rfl (by decide +kernel) (by decide) rfl dX11_init_233 ?_
    refine y_goto (tgt := 216) cx (by decide) dX11_init_236 ?_
    refine y_iload_n cx rfl rfl dX11_init_216 ?_
    refine y_bipush (v := 36) cx (by decide +kernel) dX11_init_217 ?_
    refine y_ge_f (tgt := 239) cx (by decide +kernel) (by decide) dX11_init_219 ?_
    refine y_aload_n cx rfl rfl dX11_init_222 ?_
    refine y_getf (i := 48) (fs := [.ref (z_ad g 49), .ref (z_ad g 50), .ref (z_ad g 51), .ref (z_ad g 52), .int 0, .int 0, .int 0, .ref (z_ad g 53), .ref (z_ad g 54), .int 0, .int 0, .long 0, .long 0, .ref (z_ad g 55), .int 0, .ref (z_ad g 56), .int (-1), .int 0, .int 0, .int 0, .int 0, .int 0, .ref (z_ad g 57), .ref (z_ad g 58), .ref (z_ad g 59), .long 0, .ref (z_ad g 60), .ref (z_ad g 61), .int 0, .int 0, .int 0, .int 0, .ref (z_ad g 62), .int 0, .int 0, .ref (z_ad g 63), .int 0, .ref (z_ad g 64), .ref (z_ad g 65), .int 0, .int 0, .int 0, .ref (z_ad g 66), .ref (z_ad g 67), .ref (z_ad g 68), .ref (z_ad g 69)]) (v := .ref (z_ad g 49)) cx z_cl11 (j := 0) (by decide) tb_141 rfl (by decide) rfl rfl dX11_init_223 ?_
    refine y_bipush (v := 39) cx (by decide +kernel) dX11_init_226 ?_
    refine y_iload_n cx rfl rfl dX11_init_228 ?_
    refine y_iadd (v := 40) cx (by decide +kernel) dX11_init_229 ?_
    refine y_bipush (v := 9) cx (by decide +kernel) dX11_init_230 ?_
    refine y_iast (q := 49) (n := 75) (m := 40) (f := wf_X11_48_9) (f1 := wf_X11_48_10) (sh1 := w_X11_48_s53 g sh) cx (by decide) rfl (vp_in_lit (by decide +kernel)) (by decide +kernel) rfl rfl dX11_init_232 ?_
    refine y_iinc (c := 2) (L' := [some (.ref (z_ad g 48)), some (.int 2)]) cx rfl (by decide +kernel) (by decide) rfl dX11_init_233 ?_
    refine y_goto (tgt := 216) cx (by decide) dX11_init_236 ?_
    refine y_iload_n cx rfl rfl dX11_init_216 ?_
    refine y_bipush (v := 36) cx (by decide +kernel) dX11_init_217 ?_
    refine y_ge_f (tgt := 239) cx (by decide +kernel) (by decide) dX11_init_219 ?_
    refine y_aload_n cx rfl rfl dX11_init_222 ?_
    refine y_getf (i := 48) (fs := [.ref (z_ad g 49), .ref (z_ad g 50), .ref (z_ad g 51), .ref (z_ad g 52), .int 0, .int 0, .int 0, .ref (z_ad g 53), .ref (z_ad g 54), .int 0, .int 0, .long 0, .long 0, .ref (z_ad g 55), .int 0, .ref (z_ad g 56), .int (-1), .int 0, .int 0, .int 0, .int 0, .int 0, .ref (z_ad g 57), .ref (z_ad g 58), .ref (z_ad g 59), .long 0, .ref (z_ad g 60), .ref (z_ad g 61), .int 0, .int 0, .int 0, .int 0, .ref (z_ad g 62), .int 0, .int 0, .ref (z_ad g 63), .int 0, .ref (z_ad g 64), .ref (z_ad g 65), .int 0, .int 0, .int 0, .ref (z_ad g 66), .ref (z_ad g 67), .ref (z_ad g 68), .ref (z_ad g 69)]) (v := .ref (z_ad g 49)) cx z_cl11 (j := 0) (by decide) tb_141 rfl (by decide) rfl rfl dX11_init_223 ?_
    refine y_bipush (v := 39) cx (by decide +kernel) dX11_init_226 ?_
    refine y_iload_n cx rfl rfl dX11_init_228 ?_
    refine y_iadd (v := 41) cx (by decide +kernel) dX11_init_229 ?_
    refine y_bipush (v := 9) cx (by decide +kernel) dX11_init_230 ?_
    refine y_iast (q := 49) (n := 75) (m := 41) (f := wf_X11_48_10) (f1 := wf_X11_48_11) (sh1 := w_X11_48_s54 g sh) cx (by decide) rfl (vp_in_lit (by decide +kernel)) (by decide +kernel) rfl rfl dX11_init_232 ?_
    refine y_iinc (c := 3) (L' := [some (.ref (z_ad g 48)), some (.int 3)]) cx rfl (by decide +kernel) (by decide) rfl dX11_init_233 ?_
    refine y_goto (tgt := 216) cx (by decide) dX11_init_236 ?_
    refine y_iload_n cx rfl rfl dX11_init_216 ?_
    refine y_bipush (v := 36) cx (by decide +kernel) dX11_init_217 ?_
    refine y_ge_f (tgt := 239) cx (by decide +kernel) (by decide) dX11_init_219 ?_
    refine y_aload_n cx rfl rfl dX11_init_222 ?_
    refine y_getf (i := 48) (fs := [.ref (z_ad g 49), .ref (z_ad g 50), .ref (z_ad g 51), .ref (z_ad g 52), .int 0, .int 0, .int 0, .ref (z_ad g 53), .ref (z_ad g 54), .int 0, .int 0, .long 0, .long 0, .ref (z_ad g 55), .int 0, .ref (z_ad g 56), .int (-1), .int 0, .int 0, .int 0, .int 0, .int 0, .ref (z_ad g 57), .ref (z_ad g 58), .ref (z_ad g 59), .long 0, .ref (z_ad g 60), .ref (z_ad g 61), .int 0, .int 0, .int 0, .int 0, .ref (z_ad g 62), .int 0, .int 0, .ref (z_ad g 63), .int 0, .ref (z_ad g 64), .ref (z_ad g 65), .int 0, .int 0, .int 0, .ref (z_ad g 66), .ref (z_ad g 67), .ref (z_ad g 68), .ref (z_ad g 69)]) (v := .ref (z_ad g 49)) cx z_cl11 (j := 0) (by decide) tb_141 rfl (by decide) rfl rfl dX11_init_223 ?_
    refine y_bipush (v := 39) cx (by decide +kernel) dX11_init_226 ?_
    refine y_iload_n cx rfl rfl dX11_init_228 ?_
    refine y_iadd (v := 42) cx (by decide +kernel) dX11_init_229 ?_
    refine y_bipush (v := 9) cx (by decide +kernel) dX11_init_230 ?_
    refine y_iast (q := 49) (n := 75) (m := 42) (f := wf_X11_48_11) (f1 := wf_X11_48_12) (sh1 := w_X11_48_s55 g sh) cx (by decide) rfl (vp_in_lit (by decide +kernel)) (by decide +kernel) rfl rfl dX11_init_232 ?_
    refine y_iinc (c := 4) (L' := [some (.ref (z_ad g 48)), some (.int 4)]) cx rfl (by decide +kernel) (by decide) rfl dX11_init_233 ?_
    refine y_goto (tgt := 216) cx (by decide) dX11_init_236 ?_
    refine y_iload_n cx rfl rfl dX11_init_216 ?_
    refine y_bipush (v := 36) cx (by decide +kernel) dX11_init_217 ?_
    refine y_ge_f (tgt := 239) cx (by decide +kernel) (by decide) dX11_init_219 ?_
    refine y_aload_n cx rfl rfl dX11_init_222 ?_
    refine y_getf (i := 48) (fs := [.ref (z_ad g 49), .ref (z_ad g 50), .ref (z_ad g 51), .ref (z_ad g 52), .int 0, .int 0, .int 0, .ref (z_ad g 53), .ref (z_ad g 54), .int 0, .int 0, .long 0, .long 0, .ref (z_ad g 55), .int 0, .ref (z_ad g 56), .int (-1), .int 0, .int 0, .int 0, .int 0, .int 0, .ref (z_ad g 57), .ref (z_ad g 58), .ref (z_ad g 59), .long 0, .ref (z_ad g 60), .ref (z_ad g 61), .int 0, .int 0, .int 0, .int 0, .ref (z_ad g 62), .int 0, .int 0, .ref (z_ad g 63), .int 0, .ref (z_ad g 64), .ref (z_ad g 65), .int 0, .int 0, .int 0, .ref (z_ad g 66), .ref (z_ad g 67), .ref (z_ad g 68), .ref (z_ad g 69)]) (v := .ref (z_ad g 49)) cx z_cl11 (j := 0) (by decide) tb_141 rfl (by decide) rfl rfl dX11_init_223 ?_
    refine y_bipush (v := 39) cx (by decide +kernel) dX11_init_226 ?_
    refine y_iload_n cx rfl rfl dX11_init_228 ?_
    refine y_iadd (v := 43) cx (by decide +kernel) dX11_init_229 ?_
    refine y_bipush (v := 9) cx (by decide +kernel) dX11_init_230 ?_
    refine y_iast (q := 49) (n := 75) (m := 43) (f := wf_X11_48_12) (f1 := wf_X11_48_13) (sh1 := w_X11_48_s56 g sh) cx (by decide) rfl (vp_in_lit (by decide +kernel)) (by decide +kernel) rfl rfl dX11_init_232 ?_
    refine y_iinc (c := 5) (L' := [some (.ref (z_ad g 48)), some (.int 5)]) cx rfl (by decide +kernel) (by decide) rfl dX11_init_233 ?_
    refine y_goto (tgt := 216) cx (by decide) dX11_init_236 ?_
    refine y_iload_n cx rfl rfl dX11_init_216 ?_
    refine y_bipush (v := 36) cx (by decide +kernel) dX11_init_217 ?_
    refine y_ge_f (tgt := 239) cx (by decide +kernel) (by decide) dX11_init_219 ?_
    refine y_aload_n cx rfl rfl dX11_init_222 ?_
    refine y_getf (i := 48) (fs := [.ref (z_ad g 49), .ref (z_ad g 50), .ref (z_ad g 51), .ref (z_ad g 52), .int 0, .int 0, .int 0, .ref (z_ad g 53), .ref (z_ad g 54), .int 0, .int 0, .long 0, .long 0, .ref (z_ad g 55), .int 0, .ref (z_ad g 56), .int (-1), .int 0, .int 0, .int 0, .int 0, .int 0, .ref (z_ad g 57), .ref (z_ad g 58), .ref (z_ad g 59), .long 0, .ref (z_ad g 60), .ref (z_ad g 61), .int 0, .int 0, .int 0, .int 0, .ref (z_ad g 62), .int 0, .int 0, .ref (z_ad g 63), .int 0, .ref (z_ad g 64), .ref (z_ad g 65), .int 0, .int 0, .int 0, .ref (z_ad g 66), .ref (z_ad g 67), .ref (z_ad g 68), .ref (z_ad g 69)]) (v := .ref (z_ad g 49)) cx z_cl11 (j := 0) (by decide) tb_141 rfl (by decide) rfl rfl dX11_init_223 ?_
    refine y_bipush (v := 39) cx (by decide +kernel) dX11_init_226 ?_
    refine y_iload_n cx rfl rfl dX11_init_228 ?_
    refine y_iadd (v := 44) cx (by decide +kernel) dX11_init_229 ?_
    refine y_bipush (v := 9) cx (by decide +kernel) dX11_init_230 ?_
    refine y_iast (q := 49) (n := 75) (m := 44) (f := wf_X11_48_13) (f1 := wf_X11_48_14) (sh1 := w_X11_48_s57 g sh) cx (by decide) rfl (vp_in_lit (by decide +kernel)) (by decide +kernel) rfl rfl dX11_init_232 ?_
    refine y_iinc (c := 6) (L' := [some (.ref (z_ad g 48)), some (.int 6)]) cx rfl (by decide +kernel) (by decide) rfl dX11_init_233 ?_
    refine y_goto (tgt := 216) cx (by decide) dX11_init_236 ?_
    refine y_iload_n cx rfl rfl dX11_init_216 ?_
    refine y_bipush (v := 36) cx (by decide +kernel) dX11_init_217 ?_
    refine y_ge_f (tgt := 239) cx (by decide +kernel) (by decide) dX11_init_219 ?_
    refine y_aload_n cx rfl rfl dX11_init_222 ?_
    refine y_getf (i := 48) (fs := [.ref (z_ad g 49), .ref (z_ad g 50), .ref (z_ad g 51), .ref (z_ad g 52), .int 0, .int 0, .int 0, .ref (z_ad g 53), .ref (z_ad g 54), .int 0, .int 0, .long 0, .long 0, .ref (z_ad g 55), .int 0, .ref (z_ad g 56), .int (-1), .int 0, .int 0, .int 0, .int 0, .int 0, .ref (z_ad g 57), .ref (z_ad g 58), .ref (z_ad g 59), .long 0, .ref (z_ad g 60), .ref (z_ad g 61), .int 0, .int 0, .int 0, .int 0, .ref (z_ad g 62), .int 0, .int 0, .ref (z_ad g 63), .int 0, .ref (z_ad g 64), .ref (z_ad g 65), .int 0, .int 0, .int 0, .ref (z_ad g 66), .ref (z_ad g 67), .ref (z_ad g 68), .ref (z_ad g 69)]) (v := .ref (z_ad g 49)) cx z_cl11 (j := 0) (by decide) tb_141 rfl (by decide) rfl rfl dX11_init_223 ?_
    refine y_bipush (v := 39) cx (by decide +kernel) dX11_init_226 ?_
    refine y_iload_n cx rfl rfl dX11_init_228 ?_
    refine y_iadd (v := 45) cx (by decide +kernel) dX11_init_229 ?_
    refine y_bipush (v := 9) cx (by decide +kernel) dX11_init_230 ?_
    refine y_iast (q := 49) (n := 75) (m := 45) (f := wf_X11_48_14) (f1 := wf_X11_48_15) (sh1 := w_X11_48_s58 g sh) cx (by decide) rfl (vp_in_lit (by decide +kernel)) (by decide +kernel) rfl rfl dX11_init_232 ?_
    refine y_iinc (c := 7) (L' := [some (.ref (z_ad g 48)), some (.int 7)]) cx rfl (by decide +kernel) (by decide) rfl dX11_init_233 ?_
    refine y_goto (tgt := 216) cx (by decide) dX11_init_236 ?_
    refine y_iload_n cx rfl rfl dX11_init_216 ?_
    refine y_bipush (v := 36) cx (by decide +kernel) dX11_init_217 ?_
    refine y_ge_f (tgt := 239) cx (by decide +kernel) (by decide) dX11_init_219 ?_
    refine y_aload_n cx rfl rfl dX11_init_222 ?_
    refine y_getf (i := 48) (fs := [.ref (z_ad g 49), .ref (z_ad g 50), .ref (z_ad g 51), .ref (z_ad g 52), .int 0, .int 0, .int 0, .ref (z_ad g 53), .ref (z_ad g 54), .int 0, .int 0, .long 0, .long 0, .ref (z_ad g 55), .int 0, .ref (z_ad g 56), .int (-1), .int 0, .int 0, .int 0, .int 0, .int 0, .ref (z_ad g 57), .ref (z_ad g 58), .ref (z_ad g 59), .long 0, .ref (z_ad g 60), .ref (z_ad g 61), .int 0, .int 0, .int 0, .int 0, .ref (z_ad g 62), .int 0, .int 0, .ref (z_ad g 63), .int 0, .ref (z_ad g 64), .ref (z_ad g 65), .int 0, .int 0, .int 0, .ref (z_ad g 66), .ref (z_ad g 67), .ref (z_ad g 68), .ref (z_ad g 69)]) (v := .ref (z_ad g 49)) cx z_cl11 (j := 0) (by decide) tb_141 rfl (by decide) rfl rfl dX11_init_223 ?_
    refine y_bipush (v := 39) cx (by decide +kernel) dX11_init_226 ?_
    refine y_iload_n cx rfl rfl dX11_init_228 ?_
    refine y_iadd (v := 46) cx (by decide +kernel) dX11_init_229 ?_
    refine y_bipush (v := 9) cx (by decide +kernel) dX11_init_230 ?_
    refine y_iast (q := 49) (n := 75) (m := 46) (f := wf_X11_48_15) (f1 := wf_X11_48_16) (sh1 := w_X11_48_s59 g sh) cx (by decide) rfl (vp_in_lit (by decide +kernel)) (by decide +kernel) rfl rfl dX11_init_232 ?_
    refine y_iinc (c := 8) (L' := [some (.ref (z_ad g 48)), some (.int 8)]) cx rfl (by decide +kernel) (by decide) rfl dX11_init_233 ?_
    refine y_goto (tgt := 216) cx (by decide) dX11_init_236 ?_
    refine y_iload_n cx rfl rfl dX11_init_216 ?_
    refine y_bipush (v := 36) cx (by decide +kernel) dX11_init_217 ?_
    refine y_ge_f (tgt := 239) cx (by decide +kernel) (by decide) dX11_init_219 ?_
    refine y_aload_n cx rfl rfl dX11_init_222 ?_
    refine y_getf (i := 48) (fs := [.ref (z_ad g 49), .ref (z_ad g 50), .ref (z_ad g 51), .ref (z_ad g 52), .int 0, .int 0, .int 0, .ref (z_ad g 53), .ref (z_ad g 54), .int 0, .int 0, .long 0, .long 0, .ref (z_ad g 55), .int 0, .ref (z_ad g 56), .int (-1), .int 0, .int 0, .int 0, .int 0, .int 0, .ref (z_ad g 57), .ref (z_ad g 58), .ref (z_ad g 59), .long 0, .ref (z_ad g 60), .ref (z_ad g 61), .int 0, .int 0, .int 0, .int 0, .ref (z_ad g 62), .int 0, .int 0, .ref (z_ad g 63), .int 0, .ref (z_ad g 64), .ref (z_ad g 65), .int 0, .int 0, .int 0, .ref (z_ad g 66), .ref (z_ad g 67), .ref (z_ad g 68), .ref (z_ad g 69)]) (v := .ref (z_ad g 49)) cx z_cl11 (j := 0) (by decide) tb_141 rfl (by decide) rfl rfl dX11_init_223 ?_
    refine y_bipush (v := 39) cx (by decide +kernel) dX11_init_226 ?_
    refine y_iload_n cx rfl rfl dX11_init_228 ?_
    refine y_iadd (v := 47) cx (by decide +kernel) dX11_init_229 ?_
    refine y_bipush (v := 9) cx (by decide +kernel) dX11_init_230 ?_
    refine y_iast (q := 49) (n := 75) (m := 47) (f := wf_X11_48_16) (f1 := wf_X11_48_17) (sh1 := w_X11_48_s60 g sh) cx (by decide) rfl (vp_in_lit (by decide +kernel)) (by decide +kernel) rfl rfl dX11_init_232 ?_
    refine y_iinc (c := 9) (L' := [some (.ref (z_ad g 48)), some (.int 9)]) cx rfl (by decide +kernel) (by decide) rfl dX11_init_233 ?_
    refine y_goto (tgt := 216) cx (by decide) dX11_init_236 ?_
    refine y_iload_n cx rfl rfl dX11_init_216 ?_
    refine y_bipush (v := 36) cx (by decide +kernel) dX11_init_217 ?_
    refine y_ge_f (tgt := 239) cx (by decide +kernel) (by decide) dX11_init_219 ?_
    refine y_aload_n cx rfl rfl dX11_init_222 ?_
    refine y_getf (i := 48) (fs := [.ref (z_ad g 49), .ref (z_ad g 50), .ref (z_ad g 51), .ref (z_ad g 52), .int 0, .int 0, .int 0, .ref (z_ad g 53), .ref (z_ad g 54), .int 0, .int 0, .long 0, .long 0, .ref (z_ad g 55), .int 0, .ref (z_ad g 56), .int (-1), .int 0, .int 0, .int 0, .int 0, .int 0, .ref (z_ad g 57), .ref (z_ad g 58), .ref (z_ad g 59), .long 0, .ref (z_ad g 60), .ref (z_ad g 61), .int 0, .int 0, .int 0, .int 0, .ref (z_ad g 62), .int 0, .int 0, .ref (z_ad g 63), .int 0, .ref (z_ad g 64), .ref (z_ad g 65), .int 0, .int 0, .int 0, .ref (z_ad g 66), .ref (z_ad g 67), .ref (z_ad g 68), .ref (z_ad g 69)]) (v := .ref (z_ad g 49)) cx z_cl11 (j := 0) (by decide) tb_141 rfl (by decide) rfl rfl dX11_init_223 ?_
    refine y_bipush (v := 39) cx (by decide +kernel) dX11_init_226 ?_
    refine y_iload_n cx rfl rfl dX11_init_228 ?_
    refine y_iadd (v := 48) cx (by decide +kernel) dX11_init_229 ?_
    refine y_bipush (v := 9) cx (by decide +kernel) dX11_init_230 ?_
    refine y_iast (q := 49) (n := 75) (m := 48) (f := wf_X11_48_17) (f1 := wf_X11_48_18) (sh1 := w_X11_48_s61 g sh) cx (by decide) rfl (vp_in_lit (by decide +kernel)) (by decide +kernel) rfl rfl dX11_init_232 ?_
    refine y_iinc (c := 10) (L' := [some (.ref (z_ad g 48)), some (.int 10)]) cx rfl (by decide +kernel) (by decide) rfl dX11_init_233 ?_
    refine y_goto (tgt := 216) cx (by decide) dX11_init_236 ?_
    refine y_iload_n cx rfl rfl dX11_init_216 ?_
    refine y_bipush (v := 36) cx (by decide +kernel) dX11_init_217 ?_
    refine y_ge_f (tgt := 239) cx (by decide +kernel) (by decide) dX11_init_219 ?_
    refine y_aload_n cx rfl rfl dX11_init_222 ?_
    refine y_getf (i := 48) (fs := [.ref (z_ad g 49), .ref (z_ad g 50), .ref (z_ad g 51), .ref (z_ad g 52), .int 0, .int 0, .int 0, .ref (z_ad g 53), .ref (z_ad g 54), .int 0, .int 0, .long 0, .long 0, .ref (z_ad g 55), .int 0, .ref (z_ad g 56), .int (-1), .int 0, .int 0, .int 0, .int 0, .int 0, .ref (z_ad g 57), .ref (z_ad g 58), .ref (z_ad g 59), .long 0, .ref (z_ad g 60), .ref (z_ad g 61), .int 0, .int 0, .int 0, .int 0, .ref (z_ad g 62), .int 0, .int 0, .ref (z_ad g 63), .int 0, .ref (z_ad g 64), .ref (z_ad g 65), .int 0, .int 0, .int 0, .ref (z_ad g 66), .ref (z_ad g 67), .ref (z_ad g 68), .ref (z_ad g 69)]) (v := .ref (z_ad g 49)) cx z_cl11 (j := 0) (by decide) tb_141 rfl (by decide) rfl rfl dX11_init_223 ?_
    refine y_bipush (v := 39) cx (by decide +kernel) dX11_init_226 ?_
    refine y_iload_n cx rfl rfl dX11_init_228 ?_
    refine y_iadd (v := 49) cx (by decide +kernel) dX11_init_229 ?_
    refine y_bipush (v := 9) cx (by decide +kernel) dX11_init_230 ?_
    refine y_iast (q := 49) (n := 75) (m := 49) (f := wf_X11_48_18) (f1 := wf_X11_48_19) (sh1 := w_X11_48_s62 g sh) cx (by decide) rfl (vp_in_lit (by decide +kernel)) (by decide +kernel) rfl rfl dX11_init_232 ?_
    refine y_iinc (c := 11) (L' := [some (.ref (z_ad g 48)), some (.int 11)]) cx rfl (by decide +kernel) (by decide) rfl dX11_init_233 ?_
    refine y_goto (tgt := 216) cx (by decide) dX11_init_236 ?_
    refine y_iload_n cx rfl rfl dX11_init_216 ?_
    refine y_bipush (v := 36) cx (by decide +kernel) dX11_init_217 ?_
    refine y_ge_f (tgt := 239) cx (by decide +kernel) (by decide) dX11_init_219 ?_
    refine y_aload_n cx rfl rfl dX11_init_222 ?_
    refine y_getf (i := 48) (fs := [.ref (z_ad g 49), .ref (z_ad g 50), .ref (z_ad g 51), .ref (z_ad g 52), .int 0, .int 0, .int 0, .ref (z_ad g 53), .ref (z_ad g 54), .int 0, .int 0, .long 0, .long 0, .ref (z_ad g 55), .int 0, .ref (z_ad g 56), .int (-1), .int 0, .int 0, .int 0, .int 0, .int 0, .ref (z_ad g 57), .ref (z_ad g 58), .ref (z_ad g 59), .long 0, .ref (z_ad g 60), .ref (z_ad g 61), .int 0, .int 0, .int 0, .int 0, .ref (z_ad g 62), .int 0, .int 0, .ref (z_ad g 63), .int 0, .ref (z_ad g 64), .ref (z_ad g 65), .int 0, .int 0, .int 0, .ref (z_ad g 66), .ref (z_ad g 67), .ref (z_ad g 68), .ref (z_ad g 69)]) (v := .ref (z_ad g 49)) cx z_cl11 (j := 0) (by decide) tb_141 rfl (by decide) rfl rfl dX11_init_223 ?_
    refine y_bipush (v := 39) cx (by decide +kernel) dX11_init_226 ?_
    refine y_iload_n cx rfl rfl dX11_init_228 ?_
    refine y_iadd (v := 50) cx (by decide +kernel) dX11_init_229 ?_
    refine y_bipush (v := 9) cx (by decide +kernel) dX11_init_230 ?_
    refine y_iast (q := 49) (n := 75) (m := 50) (f := wf_X11_48_19) (f1 := wf_X11_48_20) (sh1 := w_X11_48_s63 g sh) cx (by decide) rfl (vp_in_lit (by decide +kernel)) (by decide +kernel) rfl rfl dX11_init_232 ?_
    refine y_iinc (c := 12) (L' := [some (.ref (z_ad g 48)), some (.int 12)]) cx rfl (by decide +kernel) (by decide) rfl dX11_init_233 ?_
    refine y_goto (tgt := 216) cx (by decide) dX11_init_236 ?_
    refine y_iload_n cx rfl rfl dX11_init_216 ?_
    refine y_bipush (v := 36) cx (by decide +kernel) dX11_init_217 ?_
    refine y_ge_f (tgt := 239) cx (by decide +kernel) (by decide) dX11_init_219 ?_
    refine y_aload_n cx rfl rfl dX11_init_222 ?_
    refine y_getf (i := 48) (fs := [.ref (z_ad g 49), .ref (z_ad g 50), .ref (z_ad g 51), .ref (z_ad g 52), .int 0, .int 0, .int 0, .ref (z_ad g 53), .ref (z_ad g 54), .int 0, .int 0, .long 0, .long 0, .ref (z_ad g 55), .int 0, .ref (z_ad g 56), .int (-1), .int 0, .int 0, .int 0, .int 0, .int 0, .ref (z_ad g 57), .ref (z_ad g 58), .ref (z_ad g 59), .long 0, .ref (z_ad g 60), .ref (z_ad g 61), .int 0, .int 0, .int 0, .int 0, .ref (z_ad g 62), .int 0, .int 0, .ref (z_ad g 63), .int 0, .ref (z_ad g 64), .ref (z_ad g 65), .int 0, .int 0, .int 0, .ref (z_ad g 66), .ref (z_ad g 67), .ref (z_ad g 68), .ref (z_ad g 69)]) (v := .ref (z_ad g 49)) cx z_cl11 (j := 0) (by decide) tb_141 rfl (by decide) rfl rfl dX11_init_223 ?_
    refine y_bipush (v := 39) cx (by decide +kernel) dX11_init_226 ?_
    refine y_iload_n cx rfl rfl dX11_init_228 ?_
    refine y_iadd (v := 51) cx (by decide +kernel) dX11_init_229 ?_
    refine y_bipush (v := 9) cx (by decide +kernel) dX11_init_230 ?_
    refine y_iast (q := 49) (n := 75) (m := 51) (f := wf_X11_48_20) (f1 := wf_X11_48_21) (sh1 := w_X11_48_s64 g sh) cx (by decide) rfl (vp_in_lit (by decide +kernel)) (by decide +kernel) rfl rfl dX11_init_232 ?_
    refine y_iinc (c := 13) (L' := [some (.ref (z_ad g 48)), some (.int 13)]) cx rfl (by decide +kernel) (by decide) rfl dX11_init_233 ?_
    refine y_goto (tgt := 216) cx (by decide) dX11_init_236 ?_
    refine y_iload_n cx rfl rfl dX11_init_216 ?_
    refine y_bipush (v := 36) cx (by decide +kernel) dX11_init_217 ?_
    refine y_ge_f (tgt := 239) cx (by decide +kernel) (by decide) dX11_init_219 ?_
    refine y_aload_n cx rfl rfl dX11_init_222 ?_
    refine y_getf (i := 48) (fs := [.ref (z_ad g 49), .ref (z_ad g 50), .ref (z_ad g 51), .ref (z_ad g 52), .int 0, .int 0, .int 0, .ref (z_ad g 53), .ref (z_ad g 54), .int 0, .int 0, .long 0, .long 0, .ref (z_ad g 55), .int 0, .ref (z_ad g 56), .int (-1), .int 0, .int 0, .int 0, .int 0, .int 0, .ref (z_ad g 57), .ref (z_ad g 58), .ref (z_ad g 59), .long 0, .ref (z_ad g 60), .ref (z_ad g 61), .int 0, .int 0, .int 0, .int 0, .ref (z_ad g 62), .int 0, .int 0, .ref (z_ad g 63), .int 0, .ref (z_ad g 64), .ref (z_ad g 65), .int 0, .int 0, .int 0, .ref (z_ad g 66), .ref (z_ad g 67), .ref (z_ad g 68), .ref (z_ad g 69)]) (v := .ref (z_ad g 49)) cx z_cl11 (j := 0) (by decide) tb_141 rfl (by decide) rfl rfl dX11_init_223 ?_
    refine y_bipush (v := 39) cx (by decide +kernel) dX11_init_226 ?_
    refine y_iload_n cx rfl rfl dX11_init_228 ?_
    refine y_iadd (v := 52) cx (by decide +kernel) dX11_init_229 ?_
    refine y_bipush (v := 9) cx (by decide +kernel) dX11_init_230 ?_
    refine y_iast (q := 49) (n := 75) (m := 52) (f := wf_X11_48_21) (f1 := wf_X11_48_22) (sh1 := w_X11_48_s65 g sh) cx (by decide) rfl (vp_in_lit (by decide +kernel)) (by decide +kernel) rfl rfl dX11_init_232 ?_
    refine y_iinc (c := 14) (L' := [some (.ref (z_ad g 48)), some (.int 14)]) cx rfl (by decide +kernel) (by decide) rfl dX11_init_233 ?_
    refine y_goto (tgt := 216) cx (by decide) dX11_init_236 ?_
    refine y_iload_n cx rfl rfl dX11_init_216 ?_
    refine y_bipush (v := 36) cx (by decide +kernel) dX11_init_217 ?_
    refine y_ge_f (tgt := 239) cx (by decide +kernel) (by decide) dX11_init_219 ?_
    refine y_aload_n cx rfl rfl dX11_init_222 ?_
    refine y_getf (i := 48) (fs := [.ref (z_ad g 49), .ref (z_ad g 50), .ref (z_ad g 51), .ref (z_ad g 52), .int 0, .int 0, .int 0, .ref (z_ad g 53), .ref (z_ad g 54), .int 0, .int 0, .long 0, .long 0, .ref (z_ad g 55), .int 0, .ref (z_ad g 56), .int (-1), .int 0, .int 0, .int 0, .int 0, .int 0, .ref (z_ad g 57), .ref (z_ad g 58), .ref (z_ad g 59), .long 0, .ref (z_ad g 60), .ref (z_ad g 61), .int 0, .int 0, .int 0, .int 0, .ref (z_ad g 62), .int 0, .int 0, .ref (z_ad g 63), .int 0, .ref (z_ad g 64), .ref (z_ad g 65), .int 0, .int 0, .int 0, .ref (z_ad g 66), .ref (z_ad g 67), .ref (z_ad g 68), .ref (z_ad g 69)]) (v := .ref (z_ad g 49)) cx z_cl11 (j := 0) (by decide) tb_141 rfl (by decide) rfl rfl dX11_init_223 ?_
    refine y_bipush (v := 39) cx (by decide +kernel) dX11_init_226 ?_
    refine y_iload_n cx rfl rfl dX11_init_228 ?_
    refine y_iadd (v := 53) cx (by decide +kernel) dX11_init_229 ?_
    refine y_bipush (v := 9) cx (by decide +kernel) dX11_init_230 ?_
    refine y_iast (q := 49) (n := 75) (m := 53) (f := wf_X11_48_22) (f1 := wf_X11_48_23) (sh1 := w_X11_48_s66 g sh) cx (by decide) rfl (vp_in_lit (by decide +kernel)) (by decide +kernel) rfl rfl dX11_init_232 ?_
    refine y_iinc (c := 15) (L' := [some (.ref (z_ad g 48)), some (.int 15)]) cx rfl (by decide +kernel) (by decide) rfl dX11_init_233 ?_
    refine y_goto (tgt := 216) cx (by decide) dX11_init_236 ?_
    refine y_iload_n cx rfl rfl dX11_init_216 ?_
    refine y_bipush (v := 36) cx (by decide +kernel) dX11_init_217 ?_
    refine y_ge_f (tgt := 239) cx (by decide +kernel) (by decide) dX11_init_219 ?_
    refine y_aload_n cx rfl rfl dX11_init_222 ?_
    refine y_getf (i := 48) (fs := [.ref (z_ad g 49), .ref (z_ad g 50), .ref (z_ad g 51), .ref (z_ad g 52), .int 0, .int 0, .int 0, .ref (z_ad g 53), .ref (z_ad g 54), .int 0, .int 0, .long 0, .long 0, .ref (z_ad g 55), .int 0, .ref (z_ad g 56), .int (-1), .int 0, .int 0, .int 0, .int 0, .int 0, .ref (z_ad g 57), .ref (z_ad g 58), .ref (z_ad g 59), .long 0, .ref (z_ad g 60), .ref (z_ad g 61), .int 0, .int 0, .int 0, .int 0, .ref (z_ad g 62), .int 0, .int 0, .ref (z_ad g 63), .int 0, .ref (z_ad g 64), .ref (z_ad g 65), .int 0, .int 0, .int 0, .ref (z_ad g 66), .ref (z_ad g 67), .ref (z_ad g 68), .ref (z_ad g 69)]) (v := .ref (z_ad g 49)) cx z_cl11 (j := 0) (by decide) tb_141 rfl (by decide) rfl rfl dX11_init_223 ?_
    refine y_bipush (v := 39) cx (by decide +kernel) dX11_init_226 ?_
    refine y_iload_n cx rfl rfl dX11_init_228 ?_
    refine y_iadd (v := 54) cx (by decide +kernel) dX11_init_229 ?_
    refine y_bipush (v := 9) cx (by decide +kernel) dX11_init_230 ?_
    refine y_iast (q := 49) (n := 75) (m := 54) (f := wf_X11_48_23) (f1 := wf_X11_48_24) (sh1 := w_X11_48_s67 g sh) cx (by decide) rfl (vp_in_lit (by decide +kernel)) (by decide +kernel) rfl rfl dX11_init_232 ?_
    refine y_iinc (c := 16) (L' := [some (.ref (z_ad g 48)), some (.int 16)]) cx rfl (by decide +kernel) (by decide) rfl dX11_init_233 ?_
    refine y_goto (tgt := 216) cx (by decide) dX11_init_236 ?_
    refine y_iload_n cx rfl rfl dX11_init_216 ?_
    refine y_bipush (v := 36) cx (by decide +kernel) dX11_init_217 ?_
    refine y_ge_f (tgt := 239) cx (by decide +kernel) (by decide) dX11_init_219 ?_
    refine y_aload_n cx rfl rfl dX11_init_222 ?_
    refine y_getf (i := 48) (fs := [.ref (z_ad g 49), .ref (z_ad g 50), .ref (z_ad g 51), .ref (z_ad g 52), .int 0, .int 0, .int 0, .ref (z_ad g 53), .ref (z_ad g 54), .int 0, .int 0, .long 0, .long 0, .ref (z_ad g 55), .int 0, .ref (z_ad g 56), .int (-1), .int 0, .int 0, .int 0, .int 0, .int 0, .ref (z_ad g 57), .ref (z_ad g 58), .ref (z_ad g 59), .long 0, .ref (z_ad g 60), .ref (z_ad g 61), .int 0, .int 0, .int 0, .int 0, .ref (z_ad g 62), .int 0, .int 0, .ref (z_ad g 63), .int 0, .ref (z_ad g 64), .ref (z_ad g 65), .int 0, .int 0, .int 0, .ref (z_ad g 66), .ref (z_ad g 67), .ref (z_ad g 68), .ref (z_ad g 69)]) (v := .ref (z_ad g 49)) cx z_cl11 (j := 0) (by decide) tb_141 rfl (by decide) rfl rfl dX11_init_223 ?_
    refine y_bipush (v := 39) cx (by decide +kernel) dX11_init_226 ?_
    refine y_iload_n cx rfl rfl dX11_init_228 ?_
    refine y_iadd (v := 55) cx (by decide +kernel) dX11_init_229 ?_
    refine y_bipush (v := 9) cx (by decide +kernel) dX11_init_230 ?_
    refine y_iast (q := 49) (n := 75) (m := 55) (f := wf_X11_48_24) (f1 := wf_X11_48_25) (sh1 := w_X11_48_s68 g sh) cx (by decide) rfl (vp_in_lit (by decide +kernel)) (by decide +kernel) rfl rfl dX11_init_232 ?_
    refine y_iinc (c := 17) (L' := [some (.ref (z_ad g 48)), some (.int 17)]) cx rfl (by decide +kernel) (by decide) rfl dX11_init_233 ?_
    refine y_goto (tgt := 216) cx (by decide) dX11_init_236 ?_
    refine y_iload_n cx rfl rfl dX11_init_216 ?_
    refine y_bipush (v := 36) cx (by decide +kernel) dX11_init_217 ?_
    refine y_ge_f (tgt := 239) cx (by decide +kernel) (by decide) dX11_init_219 ?_
    refine y_aload_n cx rfl rfl dX11_init_222 ?_
    refine y_getf (i := 48) (fs := [.ref (z_ad g 49), .ref (z_ad g 50), .ref (z_ad g 51), .ref (z_ad g 52), .int 0, .int 0, .int 0, .ref (z_ad g 53), .ref (z_ad g 54), .int 0, .int 0, .long 0, .long 0, .ref (z_ad g 55), .int 0, .ref (z_ad g 56), .int (-1), .int 0, .int 0, .int 0, .int 0, .int 0, .ref (z_ad g 57), .ref (z_ad g 58), .ref (z_ad g 59), .long 0, .ref (z_ad g 60), .ref (z_ad g 61), .int 0, .int 0, .int 0, .int 0, .ref (z_ad g 62), .int 0, .int 0, .ref (z_ad g 63), .int 0, .ref (z_ad g 64), .ref (z_ad g 65), .int 0, .int 0, .int 0, .ref (z_ad g 66), .ref (z_ad g 67), .ref (z_ad g 68), .ref (z_ad g 69)]) (v := .ref (z_ad g 49)) cx z_cl11 (j := 0) (by decide) tb_141 rfl (by decide) rfl rfl dX11_init_223 ?_
    refine y_bipush (v := 39) cx (by decide +kernel) dX11_init_226 ?_
    refine y_iload_n cx rfl rfl dX11_init_228 ?_
    refine y_iadd (v := 56) cx (by decide +kernel) dX11_init_229 ?_
    refine y_bipush (v := 9) cx (by decide +kernel) dX11_init_230 ?_
    refine y_iast (q := 49) (n := 75) (m := 56) (f := wf_X11_48_25) (f1 := wf_X11_48_26) (sh1 := w_X11_48_s69 g sh) cx (by decide) rfl (vp_in_lit (by decide +kernel)) (by decide +kernel) rfl rfl dX11_init_232 ?_
    refine y_iinc (c := 18) (L' := [some (.ref (z_ad g 48)), some (.int 18)]) cx rfl (by decide +kernel) (by decide) rfl dX11_init_233 ?_
    refine y_goto (tgt := 216) cx (by decide) dX11_init_236 ?_
    refine y_iload_n cx rfl rfl dX11_init_216 ?_
    refine y_bipush (v := 36) cx (by decide +kernel) dX11_init_217 ?_
    refine y_ge_f (tgt := 239) cx (by decide +kernel) (by decide) dX11_init_219 ?_
    refine y_aload_n cx rfl rfl dX11_init_222 ?_
    refine y_getf (i := 48) (fs := [.ref (z_ad g 49), .ref (z_ad g 50), .ref (z_ad g 51), .ref (z_ad g 52), .int 0, .int 0, .int 0, .ref (z_ad g 53), .ref (z_ad g 54), .int 0, .int 0, .long 0, .long 0, .ref (z_ad g 55), .int 0, .ref (z_ad g 56), .int (-1), .int 0, .int 0, .int 0, .int 0, .int 0, .ref (z_ad g 57), .ref (z_ad g 58), .ref (z_ad g 59), .long 0, .ref (z_ad g 60), .ref (z_ad g 61), .int 0, .int 0, .int 0, .int 0, .ref (z_ad g 62), .int 0, .int 0, .ref (z_ad g 63), .int 0, .ref (z_ad g 64), .ref (z_ad g 65), .int 0, .int 0, .int 0, .ref (z_ad g 66), .ref (z_ad g 67), .ref (z_ad g 68), .ref (z_ad g 69)]) (v := .ref (z_ad g 49)) cx z_cl11 (j := 0) (by decide) tb_141 rfl (by decide) rfl rfl dX11_init_223 ?_
    refine y_bipush (v := 39) cx (by decide +kernel) dX11_init_226 ?_
    refine y_iload_n cx rfl rfl dX11_init_228 ?_
    refine y_iadd (v := 57) cx (by decide +kernel) dX11_init_229 ?_
    refine y_bipush (v := 9) cx (by decide +kernel) dX11_init_230 ?_
    refine y_iast (q := 49) (n := 75) (m := 57) (f := wf_X11_48_26) (f1 := wf_X11_48_27) (sh1 := w_X11_48_s70 g sh) cx (by decide) rfl (vp_in_lit (by decide +kernel)) (by decide +kernel) rfl rfl dX11_init_232 ?_
    refine y_iinc (c := 19) (L' := [some (.ref (z_ad g 48)), some (.int 19)]) cx rfl (by decide +kernel) (by decide) rfl dX11_init_233 ?_
    refine y_goto (tgt := 216) cx (by decide) dX11_init_236 ?_
    refine y_iload_n cx rfl rfl dX11_init_216 ?_
    refine y_bipush (v := 36) cx (by decide +kernel) dX11_init_217 ?_
    refine y_ge_f (tgt := 239) cx (by decide +kernel) (by decide) dX11_init_219 ?_
    refine y_aload_n cx rfl rfl dX11_init_222 ?_
    refine y_getf (i := 48) (fs := [.ref (z_ad g 49), .ref (z_ad g 50), .ref (z_ad g 51), .ref (z_ad g 52), .int 0, .int 0, .int 0, .ref (z_ad g 53), .ref (z_ad g 54), .int 0, .int 0, .long 0, .long 0, .ref (z_ad g 55), .int 0, .ref (z_ad g 56), .int (-1), .int 0, .int 0, .int 0, .int 0, .int 0, .ref (z_ad g 57), .ref (z_ad g 58), .ref (z_ad g 59), .long 0, .ref (z_ad g 60), .ref (z_ad g 61), .int 0, .int 0, .int 0, .int 0, .ref (z_ad g 62), .int 0, .int 0, .ref (z_ad g 63), .int 0, .ref (z_ad g 64), .ref (z_ad g 65), .int 0, .int 0, .int 0, .ref (z_ad g 66), .ref (z_ad g 67), .ref (z_ad g 68), .ref (z_ad g 69)]) (v := .ref (z_ad g 49)) cx z_cl11 (j := 0) (by decide) tb_141 rfl (by decide) rfl rfl dX11_init_223 ?_
    refine y_bipush (v := 39) cx (by decide +kernel) dX11_init_226 ?_
    refine y_iload_n cx rfl rfl dX11_init_228 ?_
    refine y_iadd (v := 58) cx (by decide +kernel) dX11_init_229 ?_
    refine y_bipush (v := 9) cx (by decide +kernel) dX11_init_230 ?_
    refine y_iast (q := 49) (n := 75) (m := 58) (f := wf_X11_48_27) (f1 := wf_X11_48_28) (sh1 := w_X11_48_s71 g sh) cx (by decide) rfl (vp_in_lit (by decide +kernel)) (by decide +kernel) rfl rfl dX11_init_232 ?_
    refine y_iinc (c := 20) (L' := [some (.ref (z_ad g 48)), some (.int 20)]) cx rfl (by decide +kernel) (by decide) rfl dX11_init_233 ?_
    refine y_goto (tgt := 216) cx (by decide) dX11_init_236 ?_
    refine y_iload_n cx rfl rfl dX11_init_216 ?_
    refine y_bipush (v := 36) cx (by decide +kernel) dX11_init_217 ?_
    refine y_ge_f (tgt := 239) cx (by decide +kernel) (by decide) dX11_init_219 ?_
    refine y_aload_n cx rfl rfl dX11_init_222 ?_
    refine y_getf (i := 48) (fs := [.ref (z_ad g 49), .ref (z_ad g 50), .ref (z_ad g 51), .ref (z_ad g 52), .int 0, .int 0, .int 0, .ref (z_ad g 53), .ref (z_ad g 54), .int 0, .int 0, .long 0, .long 0, .ref (z_ad g 55), .int 0, .ref (z_ad g 56), .int (-1), .int 0, .int 0, .int 0, .int 0, .int 0, .ref (z_ad g 57), .ref (z_ad g 58), .ref (z_ad g 59), .long 0, .ref (z_ad g 60), .ref (z_ad g 61), .int 0, .int 0, .int 0, .int 0, .ref (z_ad g 62), .int 0, .int 0, .ref (z_ad g 63), .int 0, .ref (z_ad g 64), .ref (z_ad g 65), .int 0, .int 0, .int 0, .ref (z_ad g 66), .ref (z_ad g 67), .ref (z_ad g 68), .ref (z_ad g 69)]) (v := .ref (z_ad g 49)) cx z_cl11 (j := 0) (by decide) tb_141 rfl (by decide) rfl rfl dX11_init_223 ?_
    refine y_bipush (v := 39) cx (by decide +kernel) dX11_init_226 ?_
    refine y_iload_n cx rfl rfl dX11_init_228 ?_
    refine y_iadd (v := 59) cx (by decide +kernel) dX11_init_229 ?_
    refine y_bipush (v := 9) cx (by decide +kernel) dX11_init_230 ?_
    refine y_iast (q := 49) (n := 75) (m := 59) (f := wf_X11_48_28) (f1 := wf_X11_48_29) (sh1 := w_X11_48_s72 g sh) cx (by decide) rfl (vp_in_lit (by decide +kernel)) (by decide +kernel) rfl rfl dX11_init_232 ?_
    refine y_iinc (c := 21) (L' := [some (.ref (z_ad g 48)), some (.int 21)]) cx rfl (by decide +kernel) (by decide) rfl dX11_init_233 ?_
    refine y_goto (tgt := 216) cx (by decide) dX11_init_236 ?_
    refine y_iload_n cx rfl rfl dX11_init_216 ?_
    refine y_bipush (v := 36) cx (by decide +kernel) dX11_init_217 ?_
    refine y_ge_f (tgt := 239) cx (by decide +kernel) (by decide) dX11_init_219 ?_
    refine y_aload_n cx rfl rfl dX11_init_222 ?_
    refine y_getf (i := 48) (fs := [.ref (z_ad g 49), .ref (z_ad g 50), .ref (z_ad g 51), .ref (z_ad g 52), .int 0, .int 0, .int 0, .ref (z_ad g 53), .ref (z_ad g 54), .int 0, .int 0, .long 0, .long 0, .ref (z_ad g 55), .int 0, .ref (z_ad g 56), .int (-1), .int 0, .int 0, .int 0, .int 0, .int 0, .ref (z_ad g 57), .ref (z_ad g 58), .ref (z_ad g 59), .long 0, .ref (z_ad g 60), .ref (z_ad g 61), .int 0, .int 0, .int 0, .int 0, .ref (z_ad g 62), .int 0, .int 0, .ref (z_ad g 63), .int 0, .ref (z_ad g 64), .ref (z_ad g 65), .int 0, .int 0, .int 0, .ref (z_ad g 66), .ref (z_ad g 67), .ref (z_ad g 68), .ref (z_ad g 69)]) (v := .ref (z_ad g 49)) cx z_cl11 (j := 0) (by decide) tb_141 rfl (by decide) rfl rfl dX11_init_223 ?_
    refine y_bipush (v := 39) cx (by decide +kernel) dX11_init_226 ?_
    refine y_iload_n cx rfl rfl dX11_init_228 ?_
    refine y_iadd (v := 60) cx (by decide +kernel) dX11_init_229 ?_
    refine y_bipush (v := 9) cx (by decide +kernel) dX11_init_230 ?_
    refine y_iast (q := 49) (n := 75) (m := 60) (f := wf_X11_48_29) (f1 := wf_X11_48_30) (sh1 := w_X11_48_s73 g sh) cx (by decide) rfl (vp_in_lit (by decide +kernel)) (by decide +kernel) rfl rfl dX11_init_232 ?_
    refine y_iinc (c := 22) (L' := [some (.ref (z_ad g 48)), some (.int 22)]) cx rfl (by decide +kernel) (by decide) rfl dX11_init_233 ?_
    refine y_goto (tgt := 216) cx (by decide) dX11_init_236 ?_
    refine y_iload_n cx rfl rfl dX11_init_216 ?_
    refine y_bipush (v := 36) cx (by decide +kernel) dX11_init_217 ?_
    refine y_ge_f (tgt := 239) cx (by decide +kernel) (by decide) dX11_init_219 ?_
    refine y_aload_n cx rfl rfl dX11_init_222 ?_
    refine y_getf (i := 48) (fs := [.ref (z_ad g 49), .ref (z_ad g 50), .ref (z_ad g 51), .ref (z_ad g 52), .int 0, .int 0, .int 0, .ref (z_ad g 53), .ref (z_ad g 54), .int 0, .int 0, .long 0, .long 0, .ref (z_ad g 55), .int 0, .ref (z_ad g 56), .int (-1), .int 0, .int 0, .int 0, .int 0, .int 0, .ref (z_ad g 57), .ref (z_ad g 58), .ref (z_ad g 59), .long 0, .ref (z_ad g 60), .ref (z_ad g 61), .int 0, .int 0, .int 0, .int 0, .ref (z_ad g 62), .int 0, .int 0, .ref (z_ad g 63), .int 0, .ref (z_ad g 64), .ref (z_ad g 65), .int 0, .int 0, .int 0, .ref (z_ad g 66), .ref (z_ad g 67), .ref (z_ad g 68), .ref (z_ad g 69)]) (v := .ref (z_ad g 49)) cx z_cl11 (j := 0) (by decide) tb_141 rfl (by decide) rfl rfl dX11_init_223 ?_
    refine y_bipush (v := 39) cx (by decide +kernel) dX11_init_226 ?_
    refine y_iload_n cx rfl rfl dX11_init_228 ?_
    refine y_iadd (v := 61) cx (by decide +kernel) dX11_init_229 ?_
    refine y_bipush (v := 9) cx (by decide +kernel) dX11_init_230 ?_
    refine y_iast (q := 49) (n := 75) (m := 61) (f := wf_X11_48_30) (f1 := wf_X11_48_31) (sh1 := w_X11_48_s74 g sh) cx (by decide) rfl (vp_in_lit (by decide +kernel)) (by decide +kernel) rfl rfl dX11_init_232 ?_
    refine y_iinc (c := 23) (L' := [some (.ref (z_ad g 48)), some (.int 23)]) cx rfl (by decide +kernel) (by decide) rfl dX11_init_233 ?_
    refine y_goto (tgt := 216) cx (by decide) dX11_init_236 ?_
    refine y_iload_n cx rfl rfl dX11_init_216 ?_
    refine y_bipush (v := 36) cx (by decide +kernel) dX11_init_217 ?_
    refine y_ge_f (tgt := 239) cx (by decide +kernel) (by decide) dX11_init_219 ?_
    refine y_aload_n cx rfl rfl dX11_init_222 ?_
    refine y_getf (i := 48) (fs := [.ref (z_ad g 49), .ref (z_ad g 50), .ref (z_ad g 51), .ref (z_ad g 52), .int 0, .int 0, .int 0, .ref (z_ad g 53), .ref (z_ad g 54), .int 0, .int 0, .long 0, .long 0, .ref (z_ad g 55), .int 0, .ref (z_ad g 56), .int (-1), .int 0, .int 0, .int 0, .int 0, .int 0, .ref (z_ad g 57), .ref (z_ad g 58), .ref (z_ad g 59), .long 0, .ref (z_ad g 60), .ref (z_ad g 61), .int 0, .int 0, .int 0, .int 0, .ref (z_ad g 62), .int 0, .int 0, .ref (z_ad g 63), .int 0, .ref (z_ad g 64), .ref (z_ad g 65), .int 0, .int 0, .int 0, .ref (z_ad g 66), .ref (z_ad g 67), .ref (z_ad g 68), .ref (z_ad g 69)]) (v := .ref (z_ad g 49)) cx z_cl11 (j := 0) (by decide) tb_141 rfl (by decide) rfl rfl dX11_init_223 ?_
    refine y_bipush (v := 39) cx (by decide +kernel) dX11_init_226 ?_
    refine y_iload_n cx rfl rfl dX11_init_228 ?_
    refine y_iadd (v := 62) cx (by decide +kernel) dX11_init_229 ?_
    refine y_bipush (v := 9) cx (by decide +kernel) dX11_init_230 ?_
    refine y_iast (q := 49) (n := 75) (m := 62) (f := wf_X11_48_31) (f1 := wf_X11_48_32) (sh1 := w_X11_48_s75 g sh) cx (by decide) rfl (vp_in_lit (by decide +kernel)) (by decide +kernel) rfl rfl dX11_init_232 ?_
    refine y_iinc (c := 24) (L' := [some (.ref (z_ad g 48)), some (.int 24)]) cx rfl (by decide +kernel) (by decide) rfl dX11_init_233 ?_
    refine y_goto (tgt := 216) cx (by decide) dX11_init_236 ?_
    refine y_iload_n cx rfl rfl dX11_init_216 ?_
    refine y_bipush (v := 36) cx (by decide +kernel) dX11_init_217 ?_
    refine y_ge_f (tgt := 239) cx (by decide +kernel) (by decide) dX11_init_219 ?_
    refine y_aload_n cx rfl rfl dX11_init_222 ?_
    refine y_getf (i := 48) (fs := [.ref (z_ad g 49), .ref (z_ad g 50), .ref (z_ad g 51), .ref (z_ad g 52), .int 0, .int 0, .int 0, .ref (z_ad g 53), .ref (z_ad g 54), .int 0, .int 0, .long 0, .long 0, .ref (z_ad g 55), .int 0, .ref (z_ad g 56), .int (-1), .int 0, .int 0, .int 0, .int 0, .int 0, .ref (z_ad g 57), .ref (z_ad g 58), .ref (z_ad g 59), .long 0, .ref (z_ad g 60), .ref (z_ad g 61), .int 0, .int 0, .int 0, .int 0, .ref (z_ad g 62), .int 0, .int 0, .ref (z_ad g 63), .int 0, .ref (z_ad g 64), .ref (z_ad g 65), .int 0, .int 0, .int 0, .ref (z_ad g 66), .ref (z_ad g 67), .ref (z_ad g 68), .ref (z_ad g 69)]) (v := .ref (z_ad g 49)) cx z_cl11 (j := 0) (by decide) tb_141 rfl (by decide) rfl rfl dX11_init_223 ?_
    refine y_bipush (v := 39) cx (by decide +kernel) dX11_init_226 ?_
    refine y_iload_n cx rfl rfl dX11_init_228 ?_
    refine y_iadd (v := 63) cx (by decide +kernel) dX11_init_229 ?_
    refine y_bipush (v := 9) cx (by decide +kernel) dX11_init_230 ?_
    refine y_iast (q := 49) (n := 75) (m := 63) (f := wf_X11_48_32) (f1 := wf_X11_48_33) (sh1 := w_X11_48_s76 g sh) cx (by decide) rfl (vp_in_lit (by decide +kernel)) (by decide +kernel) rfl rfl dX11_init_232 ?_
    refine y_iinc (c := 25) (L' := [some (.ref (z_ad g 48)), some (.int 25)]) cx rfl (by decide +kernel) (by decide) rfl dX11_init_233 ?_
    refine y_goto (tgt := 216) cx (by decide) dX11_init_236 ?_
    refine y_iload_n cx rfl rfl dX11_init_216 ?_
    refine y_bipush (v := 36) cx (by decide +kernel) dX11_init_217 ?_
    refine y_ge_f (tgt := 239) cx (by decide +kernel) (by decide) dX11_init_219 ?_
    refine y_aload_n cx rfl rfl dX11_init_222 ?_
    refine y_getf (i := 48) (fs := [.ref (z_ad g 49), .ref (z_ad g 50), .ref (z_ad g 51), .ref (z_ad g 52), .int 0, .int 0, .int 0, .ref (z_ad g 53), .ref (z_ad g 54), .int 0, .int 0, .long 0, .long 0, .ref (z_ad g 55), .int 0, .ref (z_ad g 56), .int (-1), .int 0, .int 0, .int 0, .int 0, .int 0, .ref (z_ad g 57), .ref (z_ad g 58), .ref (z_ad g 59), .long 0, .ref (z_ad g 60), .ref (z_ad g 61), .int 0, .int 0, .int 0, .int 0, .ref (z_ad g 62), .int 0, .int 0, .ref (z_ad g 63), .int 0, .ref (z_ad g 64), .ref (z_ad g 65), .int 0, .int 0, .int 0, .ref (z_ad g 66), .ref (z_ad g 67), .ref (z_ad g 68), .ref (z_ad g 69)]) (v := .ref (z_ad g 49)) cx z_cl11 (j := 0) (by decide) tb_141 rfl (by decide) rfl rfl dX11_init_223 ?_
    refine y_bipush (v := 39) cx (by decide +kernel) dX11_init_226 ?_
    refine y_iload_n cx rfl rfl dX11_init_228 ?_
    refine y_iadd (v := 64) cx (by decide +kernel) dX11_init_229 ?_
    refine y_bipush (v := 9) cx (by decide +kernel) dX11_init_230 ?_
    refine y_iast (q := 49) (n := 75) (m := 64) (f := wf_X11_48_33) (f1 := wf_X11_48_34) (sh1 := w_X11_48_s77 g sh) cx (by decide) rfl (vp_in_lit (by decide +kernel)) (by decide +kernel) rfl rfl dX11_init_232 ?_
    refine y_iinc (c := 26) (L' := [some (.ref (z_ad g 48)), some (.int 26)]) cx rfl (by decide +kernel) (by decide) rfl dX11_init_233 ?_
    refine y_goto (tgt := 216) cx (by decide) dX11_init_236 ?_
    refine y_iload_n cx rfl rfl dX11_init_216 ?_
    refine y_bipush (v := 36) cx (by decide +kernel) dX11_init_217 ?_
    refine y_ge_f (tgt := 239) cx (by decide +kernel) (by decide) dX11_init_219 ?_
    refine y_aload_n cx rfl rfl dX11_init_222 ?_
    refine y_getf (i := 48) (fs := [.ref (z_ad g 49), .ref (z_ad g 50), .ref (z_ad g 51), .ref (z_ad g 52), .int 0, .int 0, .int 0, .ref (z_ad g 53), .ref (z_ad g 54), .int 0, .int 0, .long 0, .long 0, .ref (z_ad g 55), .int 0, .ref (z_ad g 56), .int (-1), .int 0, .int 0, .int 0, .int 0, .int 0, .ref (z_ad g 57), .ref (z_ad g 58), .ref (z_ad g 59), .long 0, .ref (z_ad g 60), .ref (z_ad g 61), .int 0, .int 0, .int 0, .int 0, .ref (z_ad g 62), .int 0, .int 0, .ref (z_ad g 63), .int 0, .ref (z_ad g 64), .ref (z_ad g 65), .int 0, .int 0, .int 0, .ref (z_ad g 66), .ref (z_ad g 67), .ref (z_ad g 68), .ref (z_ad g 69)]) (v := .ref (z_ad g 49)) cx z_cl11 (j := 0) (by decide) tb_141 rfl (by decide) rfl rfl dX11_init_223 ?_
    refine y_bipush (v := 39) cx (by decide +kernel) dX11_init_226 ?_
    refine y_iload_n cx rfl rfl dX11_init_228 ?_
    refine y_iadd (v := 65) cx (by decide +kernel) dX11_init_229 ?_
    refine y_bipush (v := 9) cx (by decide +kernel) dX11_init_230 ?_
    refine y_iast (q := 49) (n := 75) (m := 65) (f := wf_X11_48_34) (f1 := wf_X11_48_35) (sh1 := w_X11_48_s78 g sh) cx (by decide) rfl (vp_in_lit (by decide +kernel)) (by decide +kernel) rfl rfl dX11_init_232 ?_
    refine y_iinc (c := 27) (L' := [some (.ref (z_ad g 48)), some (.int 27)]) cx rfl (by decide +kernel) (by decide) rfl dX11_init_233 ?_
    refine y_goto (tgt := 216) cx (by decide) dX11_init_236 ?_
    refine y_iload_n cx rfl rfl dX11_init_216 ?_
    refine y_bipush (v := 36) cx (by decide +kernel) dX11_init_217 ?_
    refine y_ge_f (tgt := 239) cx (by decide +kernel) (by decide) dX11_init_219 ?_
    refine y_aload_n cx rfl rfl dX11_init_222 ?_
    refine y_getf (i := 48) (fs := [.ref (z_ad g 49), .ref (z_ad g 50), .ref (z_ad g 51), .ref (z_ad g 52), .int 0, .int 0, .int 0, .ref (z_ad g 53), .ref (z_ad g 54), .int 0, .int 0, .long 0, .long 0, .ref (z_ad g 55), .int 0, .ref (z_ad g 56), .int (-1), .int 0, .int 0, .int 0, .int 0, .int 0, .ref (z_ad g 57), .ref (z_ad g 58), .ref (z_ad g 59), .long 0, .ref (z_ad g 60), .ref (z_ad g 61), .int 0, .int 0, .int 0, .int 0, .ref (z_ad g 62), .int 0, .int 0, .ref (z_ad g 63), .int 0, .ref (z_ad g 64), .ref (z_ad g 65), .int 0, .int 0, .int 0, .ref (z_ad g 66), .ref (z_ad g 67), .ref (z_ad g 68), .ref (z_ad g 69)]) (v := .ref (z_ad g 49)) cx z_cl11 (j := 0) (by decide) tb_141 rfl (by decide) rfl rfl dX11_init_223 ?_
    refine y_bipush (v := 39) cx (by decide +kernel) dX11_init_226 ?_
    refine y_iload_n cx rfl rfl dX11_init_228 ?_
    refine y_iadd (v := 66) cx (by decide +kernel) dX11_init_229 ?_
    refine y_bipush (v := 9) cx (by decide +kernel) dX11_init_230 ?_
    refine y_iast (q := 49) (n := 75) (m := 66) (f := wf_X11_48_35) (f1 := wf_X11_48_36) (sh1 := w_X11_48_s79 g sh) cx (by decide) rfl (vp_in_lit (by decide +kernel)) (by decide +kernel) rfl rfl dX11_init_232 ?_
    refine y_iinc (c := 28) (L' := [some (.ref (z_ad g 48)), some (.int 28)]) cx rfl (by decide +kernel) (by decide) rfl dX11_init_233 ?_
    refine y_goto (tgt := 216) cx (by decide) dX11_init_236 ?_
    refine y_iload_n cx rfl rfl dX11_init_216 ?_
    refine y_bipush (v := 36) cx (by decide +kernel) dX11_init_217 ?_
    refine y_ge_f (tgt := 239) cx (by decide +kernel) (by decide) dX11_init_219 ?_
    refine y_aload_n cx rfl rfl dX11_init_222 ?_
    refine y_getf (i := 48) (fs := [.ref (z_ad g 49), .ref (z_ad g 50), .ref (z_ad g 51), .ref (z_ad g 52), .int 0, .int 0, .int 0, .ref (z_ad g 53), .ref (z_ad g 54), .int 0, .int 0, .long 0, .long 0, .ref (z_ad g 55), .int 0, .ref (z_ad g 56), .int (-1), .int 0, .int 0, .int 0, .int 0, .int 0, .ref (z_ad g 57), .ref (z_ad g 58), .ref (z_ad g 59), .long 0, .ref (z_ad g 60), .ref (z_ad g 61), .int 0, .int 0, .int 0, .int 0, .ref (z_ad g 62), .int 0, .int 0, .ref (z_ad g 63), .int 0, .ref (z_ad g 64), .ref (z_ad g 65), .int 0, .int 0, .int 0, .ref (z_ad g 66), .ref (z_ad g 67), .ref (z_ad g 68), .ref (z_ad g 69)]) (v := .ref (z_ad g 49)) cx z_cl11 (j := 0) (by decide) tb_141 rfl (by decide) rfl rfl dX11_init_223 ?_
    refine y_bipush (v := 39) cx (by decide +kernel) dX11_init_226 ?_
    refine y_iload_n cx rfl rfl dX11_init_228 ?_
    refine y_iadd (v := 67) cx (by decide +kernel) dX11_init_229 ?_
    refine y_bipush (v := 9) cx (by decide +kernel) dX11_init_230 ?_
    refine y_iast (q := 49) (n := 75) (m := 67) (f := wf_X11_48_36) (f1 := wf_X11_48_37) (sh1 := w_X11_48_s80 g sh) cx (by decide) rfl (vp_in_lit (by decide +kernel)) (by decide +kernel) rfl rfl dX11_init_232 ?_
    refine y_iinc (c := 29) (L' := [some (.ref (z_ad g 48)), some (.int 29)]) cx rfl (by decide +kernel) (by decide) rfl dX11_init_233 ?_
    refine y_goto (tgt := 216) cx (by decide) dX11_init_236 ?_
    refine y_iload_n cx rfl rfl dX11_init_216 ?_
    refine y_bipush (v := 36) cx (by decide +kernel) dX11_init_217 ?_
    refine y_ge_f (tgt := 239) cx (by decide +kernel) (by decide) dX11_init_219 ?_
    refine y_aload_n cx rfl rfl dX11_init_222 ?_
    refine y_getf (i := 48) (fs := [.ref (z_ad g 49), .ref (z_ad g 50), .ref (z_ad g 51), .ref (z_ad g 52), .int 0, .int 0, .int 0, .ref (z_ad g 53), .ref (z_ad g 54), .int 0, .int 0, .long 0, .long 0, .ref (z_ad g 55), .int 0, .ref (z_ad g 56), .int (-1), .int 0, .int 0, .int 0, .int 0, .int 0, .ref (z_ad g 57), .ref (z_ad g 58), .ref (z_ad g 59), .long 0, .ref (z_ad g 60), .ref (z_ad g 61), .int 0, .int 0, .int 0, .int 0, .ref (z_ad g 62), .int 0, .int 0, .ref (z_ad g 63), .int 0, .ref (z_ad g 64), .ref (z_ad g 65), .int 0, .int 0, .int 0, .ref (z_ad g 66), .ref (z_ad g 67), .ref (z_ad g 68), .ref (z_ad g 69)]) (v := .ref (z_ad g 49)) cx z_cl11 (j := 0) (by decide) tb_141 rfl (by decide) rfl rfl dX11_init_223 ?_
    refine y_bipush (v := 39) cx (by decide +kernel) dX11_init_226 ?_
    refine y_iload_n cx rfl rfl dX11_init_228 ?_
    refine y_iadd (v := 68) cx (by decide +kernel) dX11_init_229 ?_
    refine y_bipush (v := 9) cx (by decide +kernel) dX11_init_230 ?_
    refine y_iast (q := 49) (n := 75) (m := 68) (f := wf_X11_48_37) (f1 := wf_X11_48_38) (sh1 := w_X11_48_s81 g sh) cx (by decide) rfl (vp_in_lit (by decide +kernel)) (by decide +kernel) rfl rfl dX11_init_232 ?_
    refine y_iinc (c := 30) (L' := [some (.ref (z_ad g 48)), some (.int 30)]) cx rfl (by decide +kernel) (by decide) rfl dX11_init_233 ?_
    refine y_goto (tgt := 216) cx (by decide) dX11_init_236 ?_
    refine y_iload_n cx rfl rfl dX11_init_216 ?_
    refine y_bipush (v := 36) cx (by decide +kernel) dX11_init_217 ?_
    refine y_ge_f (tgt := 239) cx (by decide +kernel) (by decide) dX11_init_219 ?_
    refine y_aload_n cx rfl rfl dX11_init_222 ?_
    refine y_getf (i := 48) (fs := [.ref (z_ad g 49), .ref (z_ad g 50), .ref (z_ad g 51), .ref (z_ad g 52), .int 0, .int 0, .int 0, .ref (z_ad g 53), .ref (z_ad g 54), .int 0, .int 0, .long 0, .long 0, .ref (z_ad g 55), .int 0, .ref (z_ad g 56), .int (-1), .int 0, .int 0, .int 0, .int 0, .int 0, .ref (z_ad g 57), .ref (z_ad g 58), .ref (z_ad g 59), .long 0, .ref (z_ad g 60), .ref (z_ad g 61), .int 0, .int 0, .int 0, .int 0, .ref (z_ad g 62), .int 0, .int 0, .ref (z_ad g 63), .int 0, .ref (z_ad g 64), .ref (z_ad g 65), .int 0, .int 0, .int 0, .ref (z_ad g 66), .ref (z_ad g 67), .ref (z_ad g 68), .ref (z_ad g 69)]) (v := .ref (z_ad g 49)) cx z_cl11 (j := 0) (by decide) tb_141 rfl (by decide) rfl rfl dX11_init_223 ?_
    refine y_bipush (v := 39) cx (by decide +kernel) dX11_init_226 ?_
    refine y_iload_n cx rfl rfl dX11_init_228 ?_
    refine y_iadd (v := 69) cx (by decide +kernel) dX11_init_229 ?_
    refine y_bipush (v := 9) cx (by decide +kernel) dX11_init_230 ?_
    refine y_iast (q := 49) (n := 75) (m := 69) (f := wf_X11_48_38) (f1 := wf_X11_48_39) (sh1 := w_X11_48_s82 g sh) cx (by decide) rfl (vp_in_lit (by decide +kernel)) (by decide +kernel) rfl rfl dX11_init_232 ?_
    refine y_iinc (c := 31) (L' := [some (.ref (z_ad g 48)), some (.int 31)]) cx rfl (by decide +kernel) (by decide) rfl dX11_init_233 ?_
    refine y_goto (tgt := 216) cx (by decide) dX11_init_236 ?_
    refine y_iload_n cx rfl rfl dX11_init_216 ?_
    refine y_bipush (v := 36) cx (by decide +kernel) dX11_init_217 ?_
    refine y_ge_f (tgt := 239) cx (by decide +kernel) (by decide) dX11_init_219 ?_
    refine y_aload_n cx rfl rfl dX11_init_222 ?_
    refine y_getf (i := 48) (fs := [.ref (z_ad g 49), .ref (z_ad g 50), .ref (z_ad g 51), .ref (z_ad g 52), .int 0, .int 0, .int 0, .ref (z_ad g 53), .ref (z_ad g 54), .int 0, .int 0, .long 0, .long 0, .ref (z_ad g 55), .int 0, .ref (z_ad g 56), .int (-1), .int 0, .int 0, .int 0, .int 0, .int 0, .ref (z_ad g 57), .ref (z_ad g 58), .ref (z_ad g 59), .long 0, .ref (z_ad g 60), .ref (z_ad g 61), .int 0, .int 0, .int 0, .int 0, .ref (z_ad g 62), .int 0, .int 0, .ref (z_ad g 63), .int 0, .ref (z_ad g 64), .ref (z_ad g 65), .int 0, .int 0, .int 0, .ref (z_ad g 66), .ref (z_ad g 67), .ref (z_ad g 68), .ref (z_ad g 69)]) (v := .ref (z_ad g 49)) cx z_cl11 (j := 0) (by decide) tb_141 rfl (by decide) rfl rfl dX11_init_223 ?_
    refine y_bipush (v := 39) cx (by decide +kernel) dX11_init_226 ?_
    refine y_iload_n cx rfl rfl dX11_init_228 ?_
    refine y_iadd (v := 70) cx (by decide +kernel) dX11_init_229 ?_
    refine y_bipush (v := 9) cx (by decide +kernel) dX11_init_230 ?_
    refine y_iast (q := 49) (n := 75) (m := 70) (f := wf_X11_48_39) (f1 := wf_X11_48_40) (sh1 := w_X11_48_s83 g sh) cx (by decide) rfl (vp_in_lit (by decide +kernel)) (by decide +kernel) rfl rfl dX11_init_232 ?_
    refine y_iinc (c := 32) (L' := [some (.ref (z_ad g 48)), some (.int 32)]) cx rfl (by decide +kernel) (by decide) rfl dX11_init_233 ?_
    refine y_goto (tgt := 216) cx (by decide) dX11_init_236 ?_
    refine y_iload_n cx rfl rfl dX11_init_216 ?_
    refine y_bipush (v := 36) cx (by decide +kernel) dX11_init_217 ?_
    refine y_ge_f (tgt := 239) cx (by decide +kernel) (by decide) dX11_init_219 ?_
    refine y_aload_n cx rfl rfl dX11_init_222 ?_
    refine y_getf (i := 48) (fs := [.ref (z_ad g 49), .ref (z_ad g 50), .ref (z_ad g 51), .ref (z_ad g 52), .int 0, .int 0, .int 0, .ref (z_ad g 53), .ref (z_ad g 54), .int 0, .int 0, .long 0, .long 0, .ref (z_ad g 55), .int 0, .ref (z_ad g 56), .int (-1), .int 0, .int 0, .int 0, .int 0, .int 0, .ref (z_ad g 57), .ref (z_ad g 58), .ref (z_ad g 59), .long 0, .ref (z_ad g 60), .ref (z_ad g 61), .int 0, .int 0, .int 0, .int 0, .ref (z_ad g 62), .int 0, .int 0, .ref (z_ad g 63), .int 0, .ref (z_ad g 64), .ref (z_ad g 65), .int 0, .int 0, .int 0, .ref (z_ad g 66), .ref (z_ad g 67), .ref (z_ad g 68), .ref (z_ad g 69)]) (v := .ref (z_ad g 49)) cx z_cl11 (j := 0) (by decide) tb_141 rfl (by decide) rfl rfl dX11_init_223 ?_
    refine y_bipush (v := 39) cx (by decide +kernel) dX11_init_226 ?_
    refine y_iload_n cx rfl rfl dX11_init_228 ?_
    refine y_iadd (v := 71) cx (by decide +kernel) dX11_init_229 ?_
    refine y_bipush (v := 9) cx (by decide +kernel) dX11_init_230 ?_
    refine y_iast (q := 49) (n := 75) (m := 71) (f := wf_X11_48_40) (f1 := wf_X11_48_41) (sh1 := w_X11_48_s84 g sh) cx (by decide) rfl (vp_in_lit (by decide +kernel)) (by decide +kernel) rfl rfl dX11_init_232 ?_
    refine y_iinc (c := 33) (L' := [some (.ref (z_ad g 48)), some (.int 33)]) cx rfl (by decide +kernel) (by decide) rfl dX11_init_233 ?_
    refine y_goto (tgt := 216) cx (by decide) dX11_init_236 ?_
    refine y_iload_n cx rfl rfl dX11_init_216 ?_
    refine y_bipush (v := 36) cx (by decide +kernel) dX11_init_217 ?_
    refine y_ge_f (tgt := 239) cx (by decide +kernel) (by decide) dX11_init_219 ?_
    refine y_aload_n cx rfl rfl dX11_init_222 ?_
    refine y_getf (i := 48) (fs := [.ref (z_ad g 49), .ref (z_ad g 50), .ref (z_ad g 51), .ref (z_ad g 52), .int 0, .int 0, .int 0, .ref (z_ad g 53), .ref (z_ad g 54), .int 0, .int 0, .long 0, .long 0, .ref (z_ad g 55), .int 0, .ref (z_ad g 56), .int (-1), .int 0, .int 0, .int 0, .int 0, .int 0, .ref (z_ad g 57), .ref (z_ad g 58), .ref (z_ad g 59), .long 0, .ref (z_ad g 60), .ref (z_ad g 61), .int 0, .int 0, .int 0, .int 0, .ref (z_ad g 62), .int 0, .int 0, .ref (z_ad g 63), .int 0, .ref (z_ad g 64), .ref (z_ad g 65), .int 0, .int 0, .int 0, .ref (z_ad g 66), .ref (z_ad g 67), .ref (z_ad g 68), .ref (z_ad g 69)]) (v := .ref (z_ad g 49)) cx z_cl11 (j := 0) (by decide) tb_141 rfl (by decide) rfl rfl dX11_init_223 ?_
    refine y_bipush (v := 39) cx (by decide +kernel) dX11_init_226 ?_
    refine y_iload_n cx rfl rfl dX11_init_228 ?_
    refine y_iadd (v := 72) cx (by decide +kernel) dX11_init_229 ?_
    refine y_bipush (v := 9) cx (by decide +kernel) dX11_init_230 ?_
    refine y_iast (q := 49) (n := 75) (m := 72) (f := wf_X11_48_41) (f1 := wf_X11_48_42) (sh1 := w_X11_48_s85 g sh) cx (by decide) rfl (vp_in_lit (by decide +kernel)) (by decide +kernel) rfl rfl dX11_init_232 ?_
    refine y_iinc (c := 34) (L' := [some (.ref (z_ad g 48)), some (.int 34)]) cx rfl (by decide +kernel) (by decide) rfl dX11_init_233 ?_
    refine y_goto (tgt := 216) cx (by decide) dX11_init_236 ?_
    refine y_iload_n cx rfl rfl dX11_init_216 ?_
    refine y_bipush (v := 36) cx (by decide +kernel) dX11_init_217 ?_
    refine y_ge_f (tgt := 239) cx (by decide +kernel) (by decide) dX11_init_219 ?_
    refine y_aload_n cx rfl rfl dX11_init_222 ?_
    refine y_getf (i := 48) (fs := [.ref (z_ad g 49), .ref (z_ad g 50), .ref (z_ad g 51), .ref (z_ad g 52), .int 0, .int 0, .int 0, .ref (z_ad g 53), .ref (z_ad g 54), .int 0, .int 0, .long 0, .long 0, .ref (z_ad g 55), .int 0, .ref (z_ad g 56), .int (-1), .int 0, .int 0, .int 0, .int 0, .int 0, .ref (z_ad g 57), .ref (z_ad g 58), .ref (z_ad g 59), .long 0, .ref (z_ad g 60), .ref (z_ad g 61), .int 0, .int 0, .int 0, .int 0, .ref (z_ad g 62), .int 0, .int 0, .ref (z_ad g 63), .int 0, .ref (z_ad g 64), .ref (z_ad g 65), .int 0, .int 0, .int 0, .ref (z_ad g 66), .ref (z_ad g 67), .ref (z_ad g 68), .ref (z_ad g 69)]) (v := .ref (z_ad g 49)) cx z_cl11 (j := 0) (by decide) tb_141 rfl (by decide) rfl rfl dX11_init_223 ?_
    refine y_bipush (v := 39) cx (by decide +kernel) dX11_init_226 ?_
    refine y_iload_n cx rfl rfl dX11_init_228 ?_
    refine y_iadd (v := 73) cx (by decide +kernel) dX11_init_229 ?_
    refine y_bipush (v := 9) cx (by decide +kernel) dX11_init_230 ?_
    refine y_iast (q := 49) (n := 75) (m := 73) (f := wf_X11_48_42) (f1 := wf_X11_48_43) (sh1 := w_X11_48_s86 g sh) cx (by decide) rfl (vp_in_lit (by decide +kernel)) (by decide +kernel) rfl rfl dX11_init_232 ?_
    refine y_iinc (c := 35) (L' := [some (.ref (z_ad g 48)), some (.int 35)]) cx rfl (by decide +kernel) (by decide) rfl dX11_init_233 ?_
    refine y_goto (tgt := 216) cx (by decide) dX11_init_236 ?_
    refine y_iload_n cx rfl rfl dX11_init_216 ?_
    refine y_bipush (v := 36) cx (by decide +kernel) dX11_init_217 ?_
    refine y_ge_f (tgt := 239) cx (by decide +kernel) (by decide) dX11_init_219 ?_
    refine y_aload_n cx rfl rfl dX11_init_222 ?_
    refine y_getf (i := 48) (fs := [.ref (z_ad g 49), .ref (z_ad g 50), .ref (z_ad g 51), .ref (z_ad g 52), .int 0, .int 0, .int 0, .ref (z_ad g 53), .ref (z_ad g 54), .int 0, .int 0, .long 0, .long 0, .ref (z_ad g 55), .int 0, .ref (z_ad g 56), .int (-1), .int 0, .int 0, .int 0, .int 0, .int 0, .ref (z_ad g 57), .ref (z_ad g 58), .ref (z_ad g 59), .long 0, .ref (z_ad g 60), .ref (z_ad g 61), .int 0, .int 0, .int 0, .int 0, .ref (z_ad g 62), .int 0, .int 0, .ref (z_ad g 63), .int 0, .ref (z_ad g 64), .ref (z_ad g 65), .int 0, .int 0, .int 0, .ref (z_ad g 66), .ref (z_ad g 67), .ref (z_ad g 68), .ref (z_ad g 69)]) (v := .ref (z_ad g 49)) cx z_cl11 (j := 0) (by decide) tb_141 rfl (by decide) rfl rfl dX11_init_223 ?_
    refine y_bipush (v := 39) cx (by decide +kernel) dX11_init_226 ?_
    refine y_iload_n cx rfl rfl dX11_init_228 ?_
    refine y_iadd (v := 74) cx (by decide +kernel) dX11_init_229 ?_
    refine y_bipush (v := 9) cx (by decide +kernel) dX11_init_230 ?_
    refine y_iast (q := 49) (n := 75) (m := 74) (f := wf_X11_48_43) (f1 := wf_X11_48_44) (sh1 := w_X11_48_s87 g sh) cx (by decide) rfl (vp_in_lit (by decide +kernel)) (by decide +kernel) rfl rfl dX11_init_232 ?_
    refine y_iinc (c := 36) (L' := [some (.ref (z_ad g 48)), some (.int 36)]) cx rfl (by decide +kernel) (by decide) rfl dX11_init_233 ?_
    refine y_goto (tgt := 216) cx (by decide) dX11_init_236 ?_
    refine y_iload_n cx rfl rfl dX11_init_216 ?_
    refine y_bipush (v := 36) cx (by decide +kernel) dX11_init_217 ?_
    refine y_ge_t (tgt := 239) cx (by decide +kernel) (by decide) dX11_init_219 ?_
    refine y_aload_n cx rfl rfl dX11_init_239 ?_
    refine y_iconst (v := (-1)) cx (by decide +kernel) dX11_init_240 ?_
    refine y_putf (i := 48) (fs := [.ref (z_ad g 49), .ref (z_ad g 50), .ref (z_ad g 51), .ref (z_ad g 52), .int 0, .int 0, .int 0, .ref (z_ad g 53), .ref (z_ad g 54), .int 0, .int 0, .long 0, .long 0, .ref (z_ad g 55), .int 0, .ref (z_ad g 56), .int (-1), .int 0, .int 0, .int 0, .int 0, .int 0, .ref (z_ad g 57), .ref (z_ad g 58), .ref (z_ad g 59), .long 0, .ref (z_ad g 60), .ref (z_ad g 61), .int 0, .int 0, .int 0, .int 0, .ref (z_ad g 62), .int 0, .int 0, .ref (z_ad g 63), .int 0, .ref (z_ad g 64), .ref (z_ad g 65), .int 0, .int 0, .int 0, .ref (z_ad g 66), .ref (z_ad g 67), .ref (z_ad g 68), .ref (z_ad g 69)]) (fs1 := [.ref (z_ad g 49), .ref (z_ad g 50), .ref (z_ad g 51), .ref (z_ad g 52), .int 0, .int 0, .int 0, .ref (z_ad g 53), .ref (z_ad g 54), .int 0, .int 0, .long 0, .long 0, .ref (z_ad g 55), .int 0, .ref (z_ad g 56), .int (-1), .int 0, .int 0, .int 0, .int 0, .int 0, .ref (z_ad g 57), .ref (z_ad g 58), .ref (z_ad g 59), .long 0, .ref (z_ad g 60), .ref (z_ad g 61), .int 0, .int 0, .int (-1), .int 0, .ref (z_ad g 62), .int 0, .int 0, .ref (z_ad g 63), .int 0, .ref (z_ad g 64), .ref (z_ad g 65), .int 0, .int 0, .int 0, .ref (z_ad g 66), .ref (z_ad g 67), .ref (z_ad g 68), .ref (z_ad g 69)]) (sh1 := w_X11_48_s88 g sh) cx z_cl11 (j := 30) (by decide) tb_164 rfl rfl rfl rfl (by decide) rfl rfl rfl (Nat.le_of_ble_eq_true rfl) dX11_init_241 ?_
    exact y_ret cx ce' rfl dX11_init_244)
def w_law_s1 (g : z_G) (sh : z_H) : z_H := z_u (sh) 0 (.inr (10, [.null, .null, .null, .null, .int 0, .null, .null, .null, .null, .null, .null, .null]))
def w_law_s2 (g : z_G) (sh : z_H) : z_H := w_X10_0 g (w_law_s1 g sh)
def w_law_s3 (g : z_G) (sh : z_H) : z_H := z_u (w_law_s2 g sh) 48 (.inr (11, [.null, .null, .null, .null, .int 0, .int 0, .int 0, .null, .null, .int 0, .int 0, .long 0, .long 0, .null, .int 0, .null, .int 0, .int 0, .int 0, .int 0, .int 0, .int 0, .null, .null, .null, .long 0, .null, .null, .int 0, .int 0, .int 0, .int 0, .null, .int 0, .int 0, .null, .int 0, .null, .null, .int 0, .int 0, .int 0, .null, .null, .null, .null]))
def w_law_s4 (g : z_G) (sh : z_H) : z_H := w_X11_48 g (w_law_s3 g sh)
def w_law (g : z_G) (sh : z_H) : z_H := w_law_s4 g sh
set_option maxHeartbeats 4000000 in
set_option maxRecDepth 100000 in
theorem i_law {g : z_G} {K : z_K} {sh : z_H} {b : Nat} (cx : y_C g (RL, yL_law, cL_law, 4, some .boolean) 1000 600000 7302249 0 K) (k : y_At g (RL, yL_law, cL_law, 4, some .boolean) K 70 70 2093 16 [some (.ref b), some (.ref (z_ad g 0)), some (.ref (z_ad g 48)), none] [] (w_law g sh)) : y_At g (RL, yL_law, cL_law, 4, some .boolean) K 0 0 0 0 [some (.ref b), none, none, none] [] sh := by
  refine y_new (fs := [.null, .null, .null, .null, .int 0, .null, .null, .null, .null, .null, .null, .null]) (sh1 := w_law_s1 g sh) cx z_cl10 tb_0 tb_1 tb_2 df_X10 rfl rfl rfl rfl (by decide) (by decide) rfl dL_law_0 ?_
  refine y_dup cx rfl dL_law_3 ?_
  refine y_call (sh1 := w_law_s2 g sh) cx yo_X10 (Or.inl tb_7) (by decide) (Nat.le_of_ble_eq_true rfl) rfl rfl rfl (by decide) (by decide) dL_law_4 (i_X10_0 (sh := w_law_s1 g sh) rfl) ?_
  refine y_astore_n (L' := [some (.ref b), some (.ref (z_ad g 0)), none, none]) cx rfl (by decide) rfl dL_law_7 ?_
  refine y_new (fs := [.null, .null, .null, .null, .int 0, .int 0, .int 0, .null, .null, .int 0, .int 0, .long 0, .long 0, .null, .int 0, .null, .int 0, .int 0, .int 0, .int 0, .int 0, .int 0, .null, .null, .null, .long 0, .null, .null, .int 0, .int 0, .int 0, .int 0, .null, .int 0, .int 0, .null, .int 0, .null, .null, .int 0, .int 0, .int 0, .null, .null, .null, .null]) (sh1 := w_law_s3 g sh) cx z_cl11 tb_3 tb_4 tb_5 df_X11 rfl rfl rfl rfl (by decide) (by decide) rfl dL_law_8 ?_
  refine y_dup cx rfl dL_law_11 ?_
  refine y_call (sh1 := w_law_s4 g sh) cx yo_X11 (Or.inl tb_137) (by decide) (Nat.le_of_ble_eq_true rfl) rfl rfl rfl (by decide) (by decide) dL_law_12 (i_X11_48 (sh := w_law_s3 g sh) rfl) ?_
  refine y_astore_n (L' := [some (.ref b), some (.ref (z_ad g 0)), some (.ref (z_ad g 48)), none]) cx rfl (by decide) rfl dL_law_15 ?_
  exact k
