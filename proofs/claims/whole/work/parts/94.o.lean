/-! LAW: both, either; all depths -/
theorem B_loop {N : Prop} {S T : z_Stt} {tx : Nat → Int32} {sz : Nat} (hE : env N S T tx sz) (n : Nat) {G : GT_X6_either} {H : GT_X11_either} {d : Nat} (ho : Sim N S T sz d (G.2.2.1 (Int32.ofNat d)) H.2.2.1) : ∀ (j i m m' p : Nat) (v w f o : Int32), (N → v = w) → i + j = 120 → j < m → j < m' → i ≤ p → p ≤ sz → (f < 0 → o = Int32.ofNat d) → ∃ (v' w' : Int32) (p' : Nat) (f' o' : Int32), f_X6_both_8 n G m (Int32.ofNat d) v (Int32.ofNat i) (kC S p f) = some (v', kC S p' f') ∧ f_X11_both_5 n H m' w (kR T p f o) = some (w', kR T p' f' o') ∧ (N → v' = w') ∧ p ≤ p' ∧ p' ≤ sz ∧ (f' < 0 → o' = Int32.ofNat d ∧ f' = f) := by
  intro j
  have h1 := hE.1
  induction j with
  | zero =>
    intro i m m' p v w f o hv hi hm hm' hip hp hod
    obtain ⟨m, rfl⟩ : ∃ q, m = q + 1 := ⟨m - 1, by omega⟩
    obtain ⟨m', rfl⟩ : ∃ q, m' = q + 1 := ⟨m' - 1, by omega⟩
    refine ⟨v, w, p, f, o, ?_, ?_, hv, Nat.le_refl _, hp, fun u => ⟨hod u, rfl⟩⟩
    · rw [f_X6_both_8, if_pos (by rw [on_120 (by omega)]; omega)]
    · rw [f_X11_both_5, tk11n o hE hp (by decide +kernel) (fun z => absurd z.2.1 (by omega)), g_bds, if_neg (by decide)]
  | succ j ih =>
    intro i m m' p v w f o hv hi hm hm' hip hp hod
    obtain ⟨m, rfl⟩ : ∃ q, m = q + 1 := ⟨m - 1, by omega⟩
    obtain ⟨m', rfl⟩ : ∃ q, m' = q + 1 := ⟨m' - 1, by omega⟩
    have c : ¬ 120 ≤ Int32.ofNat i := by rw [on_120 (by omega)]; omega
    by_cases q : tkP tx sz p f 38
    · obtain ⟨v1, w1, p1, f1, o1, z1, z2, zN, z3, z4, z5⟩ := ho (p + 1) f o (by have := q.2.1; omega) hod
      have nx : ∀ x y, (N → x = y) → ∃ (v' w' : Int32) (p' : Nat) (f' o' : Int32), f_X6_both_8 n G m (Int32.ofNat d) x (Int32.ofNat i + 1) (kC S p1 f1) = some (v', kC S p' f') ∧ f_X11_both_5 n H m' y (kR T p1 f1 o1) = some (w', kR T p' f' o') ∧ (N → v' = w') ∧ p ≤ p' ∧ p' ≤ sz ∧ (f' < 0 → o' = Int32.ofNat d ∧ f' = f) := by
        intro x y hxy
        obtain ⟨v', w', p', f', o', y1, y2, yN, y3, y4, y5⟩ := ih (i + 1) m m' p1 x y f1 o1 hxy (by omega) (by omega) (by omega) (by omega) z4 (fun u => (z5 u).1)
        refine ⟨v', w', p', f', o', ?_, y2, yN, by omega, y4, fun u => ⟨(y5 u).1, by have e := (y5 u).2; rw [e] at u ⊢; exact (z5 u).2.2⟩⟩
        rw [on_s i (by omega)]; exact y1
      obtain ⟨v', w', p', f', o', y1, y2, y3⟩ := nx (if v = 0 ∨ v1 = 0 then 0 else 1) (if w = 0 ∨ w1 = 0 then 0 else 1) (fun y => by rw [hv y, zN y])
      refine ⟨v', w', p', f', o', ?_, ?_, y3⟩
      · rw [f_X6_both_8, if_neg c, tk10y hE hp q, g_bds, if_pos rfl, z1, g_bds]
        by_cases c1 : v = 0
        · rw [if_pos (Or.inl c1)] at y1
          rw [if_pos c1, f_X6_both_43, f_X6_both_44, truth_0, g_bds]; exact y1
        · by_cases c2 : v1 = 0
          · rw [if_pos (Or.inr c2)] at y1
            rw [if_neg c1, if_pos c2, f_X6_both_43, f_X6_both_44, truth_0, g_bds]; exact y1
          · rw [if_neg (fun z => z.elim c1 c2)] at y1
            rw [if_neg c1, if_neg c2, f_X6_both_44, truth_1, g_bds]; exact y1
      · rw [f_X11_both_5, tk11y o hE hp q, g_bds, if_pos rfl, z2, g_bds]
        by_cases c1 : w = 0
        · rw [if_pos (Or.inl c1)] at y2
          rw [if_pos c1, f_X11_both_31, f_X11_both_32]; exact y2
        · by_cases c2 : w1 = 0
          · rw [if_pos (Or.inr c2)] at y2
            rw [if_neg c1, if_pos c2, f_X11_both_31, f_X11_both_32]; exact y2
          · rw [if_neg (fun z => z.elim c1 c2)] at y2
            rw [if_neg c1, if_neg c2, f_X11_both_32]; exact y2
    · refine ⟨v, w, p, f, o, ?_, ?_, hv, Nat.le_refl _, hp, fun u => ⟨hod u, rfl⟩⟩
      · rw [f_X6_both_8, if_neg c, tk10n hE hp (by decide +kernel) q, g_bds, if_neg (by decide)]
      · rw [f_X11_both_5, tk11n o hE hp (by decide +kernel) q, g_bds, if_neg (by decide)]
theorem B_step {N : Prop} {S T : z_Stt} {tx : Nat → Int32} {sz : Nat} (hE : env N S T tx sz) {n : Nat} (hn : 130 < n) {G : GT_X6_either} {H : GT_X11_either} {d : Nat} (ho : Sim N S T sz d (G.2.2.1 (Int32.ofNat d)) H.2.2.1) : Sim N S T sz d (f_X6_both n G (Int32.ofNat d)) (f_X11_both n H) := by
  intro p f o hp hod
  obtain ⟨v1, w1, p1, f1, o1, z1, z2, zN, z3, z4, z5⟩ := ho p f o hp hod
  obtain ⟨v', w', p', f', o', y1, y2, yN, y3, y4, y5⟩ := B_loop hE n ho 120 0 n n p1 v1 w1 f1 o1 zN (by omega) (by omega) (by omega) (by omega) z4 (fun u => (z5 u).1)
  refine ⟨v', w', p', f', o', ?_, ?_, yN, by omega, y4, fun u => ⟨(y5 u).1, by have e := (y5 u).2; rw [e] at u; have := (z5 u).2.1; omega, by have e := (y5 u).2; rw [e] at u ⊢; exact (z5 u).2.2⟩⟩
  · unfold f_X6_both
    rw [z1, g_bds]; exact y1
  · unfold f_X11_both
    rw [z2, g_bds]; exact y2
theorem E_loop {N : Prop} {S T : z_Stt} {tx : Nat → Int32} {sz : Nat} (hE : env N S T tx sz) (n : Nat) {G : GT_X6_either} {H : GT_X11_either} {d : Nat} (ho : Sim N S T sz d (G.2.1 (Int32.ofNat d)) H.2.1) : ∀ (j i m m' p : Nat) (v w f o : Int32), (N → v = w) → i + j = 120 → j < m → j < m' → i ≤ p → p ≤ sz → (f < 0 → o = Int32.ofNat d) → ∃ (v' w' : Int32) (p' : Nat) (f' o' : Int32), f_X6_either_8 n G m (Int32.ofNat d) v (Int32.ofNat i) (kC S p f) = some (v', kC S p' f') ∧ f_X11_either_5 n H m' w (kR T p f o) = some (w', kR T p' f' o') ∧ (N → v' = w') ∧ p ≤ p' ∧ p' ≤ sz ∧ (f' < 0 → o' = Int32.ofNat d ∧ f' = f) := by
  intro j
  have h1 := hE.1
  induction j with
  | zero =>
    intro i m m' p v w f o hv hi hm hm' hip hp hod
    obtain ⟨m, rfl⟩ : ∃ q, m = q + 1 := ⟨m - 1, by omega⟩
    obtain ⟨m', rfl⟩ : ∃ q, m' = q + 1 := ⟨m' - 1, by omega⟩
    refine ⟨v, w, p, f, o, ?_, ?_, hv, Nat.le_refl _, hp, fun u => ⟨hod u, rfl⟩⟩
    · rw [f_X6_either_8, if_pos (by rw [on_120 (by omega)]; omega)]
    · rw [f_X11_either_5, tk11n o hE hp (by decide +kernel) (fun z => absurd z.2.1 (by omega)), g_bds, if_neg (by decide)]
  | succ j ih =>
    intro i m m' p v w f o hv hi hm hm' hip hp hod
    obtain ⟨m, rfl⟩ : ∃ q, m = q + 1 := ⟨m - 1, by omega⟩
    obtain ⟨m', rfl⟩ : ∃ q, m' = q + 1 := ⟨m' - 1, by omega⟩
    have c : ¬ 120 ≤ Int32.ofNat i := by rw [on_120 (by omega)]; omega
    by_cases q : tkP tx sz p f 124
    · obtain ⟨v1, w1, p1, f1, o1, z1, z2, zN, z3, z4, z5⟩ := ho (p + 1) f o (by have := q.2.1; omega) hod
      have nx : ∀ x y, (N → x = y) → ∃ (v' w' : Int32) (p' : Nat) (f' o' : Int32), f_X6_either_8 n G m (Int32.ofNat d) x (Int32.ofNat i + 1) (kC S p1 f1) = some (v', kC S p' f') ∧ f_X11_either_5 n H m' y (kR T p1 f1 o1) = some (w', kR T p' f' o') ∧ (N → v' = w') ∧ p ≤ p' ∧ p' ≤ sz ∧ (f' < 0 → o' = Int32.ofNat d ∧ f' = f) := by
        intro x y hxy
        obtain ⟨v', w', p', f', o', y1, y2, yN, y3, y4, y5⟩ := ih (i + 1) m m' p1 x y f1 o1 hxy (by omega) (by omega) (by omega) (by omega) z4 (fun u => (z5 u).1)
        refine ⟨v', w', p', f', o', ?_, y2, yN, by omega, y4, fun u => ⟨(y5 u).1, by have e := (y5 u).2; rw [e] at u ⊢; exact (z5 u).2.2⟩⟩
        rw [on_s i (by omega)]; exact y1
      obtain ⟨v', w', p', f', o', y1, y2, y3⟩ := nx (if v = 0 ∧ v1 = 0 then 0 else 1) (if w = 0 ∧ w1 = 0 then 0 else 1) (fun y => by rw [hv y, zN y])
      refine ⟨v', w', p', f', o', ?_, ?_, y3⟩
      · rw [f_X6_either_8, if_neg c, tk10y hE hp q, g_bds, if_pos rfl, z1, g_bds]
        by_cases c1 : v = 0
        · by_cases c2 : v1 = 0
          · rw [if_pos ⟨c1, c2⟩] at y1
            rw [if_pos c1, if_pos c2, f_X6_either_44, truth_0, g_bds]; exact y1
          · rw [if_neg (fun z => c2 z.2)] at y1
            rw [if_pos c1, if_neg c2, f_X6_either_39, f_X6_either_44, truth_1, g_bds]; exact y1
        · rw [if_neg (fun z => c1 z.1)] at y1
          rw [if_neg c1, f_X6_either_39, f_X6_either_44, truth_1, g_bds]; exact y1
      · rw [f_X11_either_5, tk11y o hE hp q, g_bds, if_pos rfl, z2, g_bds]
        by_cases c1 : w = 0
        · by_cases c2 : w1 = 0
          · rw [if_pos ⟨c1, c2⟩] at y2
            rw [if_pos c1, if_pos c2, f_X11_either_32]; exact y2
          · rw [if_neg (fun z => c2 z.2)] at y2
            rw [if_pos c1, if_neg c2, f_X11_either_27, f_X11_either_32]; exact y2
        · rw [if_neg (fun z => c1 z.1)] at y2
          rw [if_neg c1, f_X11_either_27, f_X11_either_32]; exact y2
    · refine ⟨v, w, p, f, o, ?_, ?_, hv, Nat.le_refl _, hp, fun u => ⟨hod u, rfl⟩⟩
      · rw [f_X6_either_8, if_neg c, tk10n hE hp (by decide +kernel) q, g_bds, if_neg (by decide)]
      · rw [f_X11_either_5, tk11n o hE hp (by decide +kernel) q, g_bds, if_neg (by decide)]
theorem E_step {N : Prop} {S T : z_Stt} {tx : Nat → Int32} {sz : Nat} (hE : env N S T tx sz) {n : Nat} (hn : 130 < n) {G : GT_X6_either} {H : GT_X11_either} {d : Nat} (ho : Sim N S T sz d (G.2.1 (Int32.ofNat d)) H.2.1) : Sim N S T sz d (f_X6_either n G (Int32.ofNat d)) (f_X11_either n H) := by
  intro p f o hp hod
  obtain ⟨v1, w1, p1, f1, o1, z1, z2, zN, z3, z4, z5⟩ := ho p f o hp hod
  obtain ⟨v', w', p', f', o', y1, y2, yN, y3, y4, y5⟩ := E_loop hE n ho 120 0 n n p1 v1 w1 f1 o1 zN (by omega) (by omega) (by omega) (by omega) z4 (fun u => (z5 u).1)
  refine ⟨v', w', p', f', o', ?_, ?_, yN, by omega, y4, fun u => ⟨(y5 u).1, by have e := (y5 u).2; rw [e] at u; have := (z5 u).2.1; omega, by have e := (y5 u).2; rw [e] at u ⊢; exact (z5 u).2.2⟩⟩
  · unfold f_X6_either
    rw [z1, g_bds]; exact y1
  · unfold f_X11_either
    rw [z2, g_bds]; exact y2
/-- all readers at depth d -/
theorem L_all {N : Prop} {S T : z_Stt} {tx : Nat → Int32} {sz : Nat} (hE : env N S T tx sz) {n : Nat} (hn : 130 < n) : ∀ (j d k : Nat), d + j = 6 → 6 * j ≤ k → Sim N S T sz d ((g_X6_either n (k + 1)).2.2.2.2.2 (Int32.ofNat d)) (g_X11_either n (k + 1)).2.2.2.2.2 ∧ Sim N S T sz d ((g_X6_either n (k + 6)).1 (Int32.ofNat d)) (g_X11_either n (k + 6)).1 := by
  intro j
  induction j with
  | zero =>
    intro d k hd hk
    have o : ∀ q, Sim N S T sz d ((g_X6_either n (q + 1)).2.2.2.2.2 (Int32.ofNat d)) (g_X11_either n (q + 1)).2.2.2.2.2 := fun q => O_step hE (by omega) (by omega) (fun z => absurd z (by omega))
    have p : Sim N S T sz d ((g_X6_either n (k + 2)).2.2.2.2.1 (Int32.ofNat d)) (g_X11_either n (k + 2)).2.2.2.2.1 := P_step hE hn (o k)
    have s : Sim N S T sz d ((g_X6_either n (k + 3)).2.2.2.1 (Int32.ofNat d)) (g_X11_either n (k + 3)).2.2.2.1 := S_step hE hn p
    have c : Sim N S T sz d ((g_X6_either n (k + 4)).2.2.1 (Int32.ofNat d)) (g_X11_either n (k + 4)).2.2.1 := C_step hE s
    have b : Sim N S T sz d ((g_X6_either n (k + 5)).2.1 (Int32.ofNat d)) (g_X11_either n (k + 5)).2.1 := B_step hE hn c
    exact ⟨o k, E_step hE hn b⟩
  | succ j ih =>
    intro d k hd hk
    have o : Sim N S T sz d ((g_X6_either n (k + 1)).2.2.2.2.2 (Int32.ofNat d)) (g_X11_either n (k + 1)).2.2.2.2.2 := by
      obtain ⟨k', rfl⟩ : ∃ q, k = q + 6 := ⟨k - 6, by omega⟩
      exact O_step hE (by omega) (by omega) (fun _ => ⟨(ih (d + 1) (k' + 5) (by omega) (by omega)).1, (ih (d + 1) k' (by omega) (by omega)).2⟩)
    have p : Sim N S T sz d ((g_X6_either n (k + 2)).2.2.2.2.1 (Int32.ofNat d)) (g_X11_either n (k + 2)).2.2.2.2.1 := P_step hE hn o
    have s : Sim N S T sz d ((g_X6_either n (k + 3)).2.2.2.1 (Int32.ofNat d)) (g_X11_either n (k + 3)).2.2.2.1 := S_step hE hn p
    have c : Sim N S T sz d ((g_X6_either n (k + 4)).2.2.1 (Int32.ofNat d)) (g_X11_either n (k + 4)).2.2.1 := C_step hE s
    have b : Sim N S T sz d ((g_X6_either n (k + 5)).2.1 (Int32.ofNat d)) (g_X11_either n (k + 5)).2.1 := B_step hE hn c
    exact ⟨o, E_step hE hn b⟩
theorem L_top {N : Prop} {S T : z_Stt} {tx : Nat → Int32} {sz : Nat} (hE : env N S T tx sz) {n : Nat} (hn : 130 < n) : Sim N S T sz 0 ((g_X6_either n 64).1 0) (g_X11_either n 64).1 := (L_all hE hn 6 0 58 (by omega) (by omega)).2
