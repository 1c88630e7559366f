set_option maxRecDepth 100000 in
set_option maxHeartbeats 4000000 in
theorem S0_may : wf_X11_48_44 = wf_X9_1_38 := by
  funext k
  by_cases hk : k < 75
  · have : ∀ k, k < 75 → wf_X11_48_44 k = wf_X9_1_38 k := by decide +kernel
    exact this k hk
  · simp only [wf_X9_1_38, wf_X9_1_37, wf_X9_1_36, wf_X9_1_35, wf_X9_1_34, wf_X9_1_33, wf_X9_1_32, wf_X9_1_31, wf_X9_1_30, wf_X9_1_29, wf_X9_1_28, wf_X9_1_27, wf_X9_1_26, wf_X9_1_25, wf_X9_1_24, wf_X9_1_23, wf_X9_1_22, wf_X9_1_21, wf_X9_1_20, wf_X9_1_19, wf_X9_1_18, wf_X9_1_17, wf_X9_1_16, wf_X9_1_15, wf_X9_1_14, wf_X9_1_13, wf_X9_1_12, wf_X9_1_11, wf_X9_1_10, wf_X9_1_9, wf_X9_1_8, wf_X9_1_7, wf_X9_1_6, wf_X9_1_5, wf_X9_1_4, wf_X9_1_3, wf_X9_1_2, wf_X9_1_1, wf_X11_48_44, wf_X11_48_43, wf_X11_48_42, wf_X11_48_41, wf_X11_48_40, wf_X11_48_39, wf_X11_48_38, wf_X11_48_37, wf_X11_48_36, wf_X11_48_35, wf_X11_48_34, wf_X11_48_33, wf_X11_48_32, wf_X11_48_31, wf_X11_48_30, wf_X11_48_29, wf_X11_48_28, wf_X11_48_27, wf_X11_48_26, wf_X11_48_25, wf_X11_48_24, wf_X11_48_23, wf_X11_48_22, wf_X11_48_21, wf_X11_48_20, wf_X11_48_19, wf_X11_48_18, wf_X11_48_17, wf_X11_48_16, wf_X11_48_15, wf_X11_48_14, wf_X11_48_13, wf_X11_48_12, wf_X11_48_11, wf_X11_48_10, wf_X11_48_9, wf_X11_48_8, wf_X11_48_7, upd]
set_option maxRecDepth 100000 in
set_option maxHeartbeats 4000000 in
theorem Inv_S0 : Inv S0 := by
  refine ⟨⟨⟨by decide +kernel, by decide +kernel, by decide +kernel⟩, S0_may, rfl⟩, ⟨⟨by decide +kernel, by decide +kernel, by decide +kernel, fun k hk => absurd hk (Nat.not_lt_zero k)⟩, rfl, rfl, rfl, rfl, rfl⟩, ⟨⟨by decide +kernel, by decide +kernel, by decide +kernel, by decide +kernel, by decide +kernel⟩, rfl, by decide +kernel, rfl, rfl, rfl, rfl, rfl⟩, ⟨Or.inl rfl, rfl, fun h => absurd h (by decide +kernel)⟩, ⟨⟨Or.inl ⟨rfl, rfl⟩, by decide +kernel, fun k hk => absurd hk (Nat.not_lt_zero k), by decide +kernel, fun k hk => absurd hk (Nat.not_lt_zero k), fun h => absurd h (by decide +kernel)⟩, rfl, fun k hk => absurd hk (Nat.not_lt_zero k), Or.inl ⟨rfl, rfl⟩⟩, ⟨⟨by decide +kernel, fun k hk => absurd hk (Nat.not_lt_zero k), by decide +kernel⟩, rfl, rfl, rfl, rfl⟩, ?_⟩
  intro d hd
  have h0 : ∀ d, d < 6 → shH S0 d = 0 ∧ S0.2.2.1 66 d = -1 := by decide +kernel
  obtain ⟨h1, h2⟩ := h0 d hd
  refine ⟨⟨Or.inl h1, fun q => ?_, fun q => ?_⟩, fun _ => h2, fun q => ?_, fun q => ?_⟩ <;> (rw [h1] at q; exact absurd q (by decide +kernel))
theorem whole_math (xs : Nat → Int32) (L : Nat) (hL : L ≤ 3072) : ∃ (n : Nat) (S1 : z_Stt), f_L_law n xs L S0 = some (true, S1) := by
  obtain ⟨S1, h⟩ := law_go (xs := xs) hL FUEL 0 0 S0 rfl (by unfold FUEL; omega) (by omega) Inv_S0
  exact ⟨FUEL, S1, h⟩
