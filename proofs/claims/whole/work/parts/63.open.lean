theorem st_NB : ∀ w ∈ y_NB, w ∈ lw_tbl := by
  intro w hw
  simp only [y_NB, List.mem_cons, List.not_mem_nil, or_false] at hw
  rcases hw with rfl | rfl | rfl | rfl | rfl | rfl | rfl | rfl | rfl
  · exact (List.mem_of_getElem? (i := 130) (by decide +kernel))
  · exact (List.mem_of_getElem? (i := 154) (by decide +kernel))
  · exact (List.mem_of_getElem? (i := 188) (by decide +kernel))
  · exact (List.mem_of_getElem? (i := 217) (by decide +kernel))
  · exact (List.mem_of_getElem? (i := 268) (by decide +kernel))
  · exact (List.mem_of_getElem? (i := 290) (by decide +kernel))
  · exact (List.mem_of_getElem? (i := 309) (by decide +kernel))
  · exact (List.mem_of_getElem? (i := 339) (by decide +kernel))
  · exact (List.mem_of_getElem? (i := 240) (by decide +kernel))
set_option maxHeartbeats 4000000 in
set_option maxRecDepth 100000 in
/-- THE LAW'S BODY FROM ITS ENTRY, out of one fact of the pure functions: over the first state the law's function comes to its end with true -/
theorem whole_open (hm : ∀ (xs : Nat → Int32) (L : Nat), L ≤ 3072 → ∃ (n : Nat) (S1 : z_Stt), f_L_law n xs L S0 = some (true, S1)) {p : Program} {e : Env} {s : State} {m : MethodId} {below : List Frame} {meth : Method} {c : Code} (l : Launch) {b L : Nat} {xs : Nat → Int32} (hL : L ≤ 3072) (C0 : lw_At p s m meth c b L xs) : W p l e room_1 s m #[Value.ref b] below meth c s.heap [] 0 0 (lw_Z below #[Value.ref b] s) (entryFrame m ([Value.ref b] : List Value).toArray 4) := by
  obtain ⟨hx, hb, hr, hml, hown, hts, hX, hbl, hlocks, hgv⟩ := id C0
  obtain ⟨n, S1, hf⟩ := hm xs L hL
  obtain ⟨dC, dI, hKc⟩ := st_known hts
  obtain ⟨ac, hac⟩ := st_tys (args := #[Value.ref b]) (hts (.arrayClass .int) (List.mem_of_getElem? (i := 127) (by decide +kernel))) (hts (.arrayClass .long) (List.mem_of_getElem? (i := 265) (by decide +kernel))) (hts (.arrayClass .boolean) (List.mem_of_getElem? (i := 1145) (by decide +kernel))) (hts (.arrayOver (.object "HasShut$Fraction")) (List.mem_of_getElem? (i := 239) (by decide +kernel))) (hts (.arrayOver (.object "HasShut$Shelf")) (List.mem_of_getElem? (i := 337) (by decide +kernel)))
  have hA : ∀ a : Nat, a < s.heap.size → ¬ (fun q : Nat => s.heap.size ≤ q) a := fun a h => Nat.not_le.mpr h
  obtain ⟨t0, h0⟩ := (st_tab (A := fun q : Nat => s.heap.size ≤ q) (C := "HasShut$Told") (n := "MOST") (N := 10) (f := st_MOST) hgv (by decide) (hts (.laysStatic "HasShut$Told" "MOST" "[I") (List.mem_of_getElem? (i := 406) (by decide +kernel))) (hts (.initialized "HasShut$Told") (z_TB_in tb_15)) (by decide +kernel) (by decide +kernel) (by decide +kernel) hA)
  obtain ⟨t1, h1⟩ := (st_tab (A := fun q : Nat => s.heap.size ≤ q) (C := "HasShut$Goers") (n := "KIND_ABOVE") (N := 8) (f := st_KA) hgv (by decide) (hts (.laysStatic "HasShut$Goers" "KIND_ABOVE" "[I") (List.mem_of_getElem? (i := 924) (by decide +kernel))) (hts (.initialized "HasShut$Goers") (z_TB_in tb_49)) (by decide +kernel) (by decide +kernel) (by decide +kernel) hA)
  obtain ⟨t2, h2⟩ := (st_tab (A := fun q : Nat => s.heap.size ≤ q) (C := "HasShut$Goers") (n := "OWN_BODIES") (N := 32) (f := st_OB) hgv (by decide) (hts (.laysStatic "HasShut$Goers" "OWN_BODIES" "[I") (List.mem_of_getElem? (i := 922) (by decide +kernel))) (hts (.initialized "HasShut$Goers") (z_TB_in tb_49)) (by decide +kernel) (by decide +kernel) (by decide +kernel) hA)
  have hK : va_K (dC, dI) vwCl [(ac 0, .int), (ac 1, .long), (ac 2, .boolean), (ac 3, .object "HasShut$Fraction"), (ac 4, .object "HasShut$Shelf")] s := ⟨hKc, hac⟩
  have hTB : ∀ w ∈ z_TB, w.before #[Value.ref b] s = true := fun w hw => hts w (z_TB_in hw)
  have key : ∀ g : z_G, g = (l, dC, dI, ac, fun k => s.heap.size + k, fun k => if k = 0 then t0 else if k = 1 then t1 else t2) → W p l e room_1 s m #[Value.ref b] below meth c s.heap [] 0 0 (lw_Z below #[Value.ref b] s) (entryFrame m ([Value.ref b] : List Value).toArray 4) := by
    intro g hg
    have g1 : g.1 = l := by rw [hg]
    have gK : va_K (z_D g) vwCl (z_tys g) s := by rw [hg]; exact hK
    have gad : ∀ k, z_ad g k = s.heap.size + k := by rw [hg]; exact fun k => rfl
    have gS : z_St g (fun q : Nat => s.heap.size ≤ q) s s.heap := by rw [hg]; exact ⟨h0, h1, h2⟩
    have gAd : ∀ k, (fun q : Nat => s.heap.size ≤ q) (z_ad g k) := fun k => by show s.heap.size ≤ z_ad g k; rw [gad]; exact Nat.le_add_right _ _
    have cy : y_C g (RL, yL_law, cL_law, 4, some .boolean) 1000 600000 7302249 0 (p, e, room_1, s, m, #[Value.ref b], below, meth, c, 0, 0, lw_Z below #[Value.ref b] s, fun q : Nat => s.heap.size ≤ q) :=
      ⟨hx, hb, hml, hown, hTB, ⟨gK, fun k => by rw [gad, gad]; omega, fun w hw => by
        have q := hts w (st_NB w hw)
        simp only [y_NB, List.mem_cons, List.not_mem_nil, or_false] at hw
        rcases hw with rfl | rfl | rfl | rfl | rfl | rfl | rfl | rfl | rfl <;> exact va_Nw.of rfl q, va_AO.of (hts _ (List.mem_of_getElem? (i := 239) (by decide +kernel))), va_AO.of (hts _ (List.mem_of_getElem? (i := 337) (by decide +kernel)))⟩, gAd, Nat.le_of_ble_eq_true rfl, Nat.le_of_ble_eq_true rfl, Nat.le_refl _, Nat.le_refl _, by rw [gad]; rfl⟩
    have cz : z_C g M_L_law 1000 (p, e, room_1, s, m, #[Value.ref b], below, meth, c, 70, 2093, lw_Z below #[Value.ref b] s, fun q : Nat => s.heap.size ≤ q) :=
      ⟨hx, hb, hml, hown, hTB, ⟨gK, gS, fun i j _ _ h => by rw [gad, gad] at h; omega⟩, fun k _ => gAd k, Nat.le_of_ble_eq_true rfl, Nat.le_of_ble_eq_true rfl, Nat.le_of_ble_eq_true rfl, Nat.le_of_ble_eq_true rfl⟩
    have lx : z_LK (p, e, room_1, s, m, #[Value.ref b], below, meth, c, 70, 2093, lw_Z below #[Value.ref b] s, fun q : Nat => s.heap.size ≤ q) b L xs :=
      ⟨hX, hbl, rfl, rfl, rfl, rfl, Nat.le_of_ble_eq_true rfl, Nat.le_of_ble_eq_true rfl, hr, hlocks⟩
    have hgo := i_law (sh := fun _ => .inr (99, [])) (b := b) cy (fun H locs ls hW hS hl => t_L_law n xs L cz lx S0 hf H locs ls (S0_W hW) hS hl)
    have hl := lv_entry ([.ref b]) (n := 4) (Nat.le_of_ble_eq_true rfl)
    rw [lg_entry_eq]
    rw [← g1]
    refine hgo s.heap [] _ (fun k q h => ?_) va_S.rf hl
    exact absurd (y_ws_of h).1 (Nat.not_lt_zero _)
  exact key _ rfl
