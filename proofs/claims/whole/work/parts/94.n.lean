/-! LAW: products, sums, comparisons, both, either -/
theorem P_loop {N : Prop} {S T : z_Stt} {tx : Nat → Int32} {sz : Nat} (hE : env N S T tx sz) (n : Nat) {G : GT_X6_either} {H : GT_X11_either} {d : Nat} (ho : Sim N S T sz d (G.2.2.2.2.2 (Int32.ofNat d)) H.2.2.2.2.2) : ∀ (j i m m' p : Nat) (v w f o : Int32), (N → v = w) → i + j = 120 → j < m → j < m' → i ≤ p → p ≤ sz → (f < 0 → o = Int32.ofNat d) → ∃ (v' w' : Int32) (p' : Nat) (f' o' : Int32), f_X6_product_8 n G m (Int32.ofNat d) v (Int32.ofNat i) (kC S p f) = some (v', kC S p' f') ∧ f_X11_product_10 n H m' w (if p < sz then tx p else 0) (kR T p f o) = some (w', kR T p' f' o') ∧ (N → v' = w') ∧ p ≤ p' ∧ p' ≤ sz ∧ (f' < 0 → o' = Int32.ofNat d ∧ f' = f) := by
  intro j
  have h1 := hE.1
  induction j with
  | zero =>
    intro i m m' p v w f o hv hi hm hm' hip hp hod
    obtain ⟨m, rfl⟩ : ∃ q, m = q + 1 := ⟨m - 1, by omega⟩
    obtain ⟨m', rfl⟩ : ∃ q, m' = q + 1 := ⟨m' - 1, by omega⟩
    have r20 : (kR T p f o).1 4820 = f := rfl
    refine ⟨v, w, p, f, o, ?_, ?_, hv, Nat.le_refl _, hp, fun u => ⟨hod u, rfl⟩⟩
    · rw [f_X6_product_8, if_pos (by rw [on_120 (by omega)]; omega)]
    · rw [if_neg (by omega), f_X11_product_10, r20]
      split
      · rfl
      · rw [if_neg (by decide +kernel), if_neg (by decide +kernel), if_neg (by decide +kernel)]
  | succ j ih =>
    intro i m m' p v w f o hv hi hm hm' hip hp hod
    obtain ⟨m, rfl⟩ : ∃ q, m = q + 1 := ⟨m - 1, by omega⟩
    obtain ⟨m', rfl⟩ : ∃ q, m' = q + 1 := ⟨m' - 1, by omega⟩
    have r20 : (kR T p f o).1 4820 = f := rfl
    have r8 : (kR T p f o).1 4818 = Int32.ofNat p := rfl
    have c : ¬ 120 ≤ Int32.ofNat i := by rw [on_120 (by omega)]; omega
    by_cases q : f < 0 ∧ p < sz
    · have nf : ¬ 0 ≤ f := Int32.not_le.mpr q.1
      rw [if_pos q.2]
      have ok : tx p = 42 ∨ tx p = 47 ∨ tx p = 37 → ∃ (v1 w1 : Int32) (p1 : Nat) (f1 o1 : Int32), G.2.2.2.2.2 (Int32.ofNat d) (kC S (p + 1) f) = some (v1, kC S p1 f1) ∧ H.2.2.2.2.2 (kR T (p + 1) f o) = some (w1, kR T p1 f1 o1) ∧ (N → v1 = w1) ∧ ∀ x y, (N → x = y) → ∃ (v' w' : Int32) (p' : Nat) (f' o' : Int32), f_X6_product_8 n G m (Int32.ofNat d) x (Int32.ofNat i + 1) (kC S p1 f1) = some (v', kC S p' f') ∧ f_X11_product_85 n H (f_X11_product_10 n H m') y (kR T p1 f1 o1) = some (w', kR T p' f' o') ∧ (N → v' = w') ∧ p ≤ p' ∧ p' ≤ sz ∧ (f' < 0 → o' = Int32.ofNat d ∧ f' = f) := by
        intro _
        obtain ⟨v1, w1, p1, f1, o1, z1, z2, zN, z3, z4, z5⟩ := ho (p + 1) f o (by omega) hod
        refine ⟨v1, w1, p1, f1, o1, z1, z2, zN, fun x y hxy => ?_⟩
        obtain ⟨v', w', p', f', o', y1, y2, yN, y3, y4, y5⟩ := ih (i + 1) m m' p1 x y f1 o1 hxy (by omega) (by omega) (by omega) (by omega) z4 (fun u => (z5 u).1)
        refine ⟨v', w', p', f', o', ?_, ?_, yN, by omega, y4, fun u => ⟨(y5 u).1, by have e := (y5 u).2; rw [e] at u ⊢; exact (z5 u).2.2⟩⟩
        · rw [on_s i (by omega)]; exact y1
        · rw [f_X11_product_85, e_byteAt f1 o1 hE z4, g_bds]; exact y2
      by_cases c1 : tx p = 42
      · obtain ⟨v1, w1, p1, f1, o1, z1, z2, zN, z4⟩ := ok (Or.inl c1)
        obtain ⟨v', w', p', f', o', y1, y2, y3⟩ := z4 (v * v1) (w * w1) (fun y => by rw [hv y, zN y])
        refine ⟨v', w', p', f', o', ?_, ?_, y3⟩
        · rw [f_X6_product_8, if_neg c, tk10y hE hp ⟨q.1, q.2, c1⟩, g_bds, if_pos rfl, z1, g_bds, f_X6_product_102]; exact y1
        · rw [f_X11_product_10, r20, if_neg nf, if_pos c1, f_X11_product_35, g_lets, r8, on_s p (by omega), kR_8, z2, g_bds, if_pos c1]; exact y2
      · by_cases c2 : tx p = 47
        · obtain ⟨v1, w1, p1, f1, o1, z1, z2, zN, z4⟩ := ok (Or.inr (Or.inl c2))
          obtain ⟨v', w', p', f', o', y1, y2, y3⟩ := z4 (if v1 = 0 then 0 else v / v1) (if w1 = 0 then 0 else w / w1) (fun y => by rw [hv y, zN y])
          refine ⟨v', w', p', f', o', ?_, ?_, y3⟩
          · rw [f_X6_product_8, if_neg c, tk10n hE hp (by decide +kernel) (fun z => c1 z.2.2), g_bds, if_neg (by decide), tk10y hE hp ⟨q.1, q.2, c2⟩, g_bds, if_pos rfl, z1, g_bds]
            by_cases v0 : v1 = 0
            · rw [if_pos v0] at y1
              rw [if_pos v0, f_X6_product_63, f_X6_product_102]; exact y1
            · rw [if_neg v0] at y1
              rw [if_neg v0, if_pos v0, f_X6_product_63, f_X6_product_102]; exact y1
          · rw [f_X11_product_10, r20, if_neg nf, if_neg c1, if_pos c2, f_X11_product_35, g_lets, r8, on_s p (by omega), kR_8, z2, g_bds, if_neg c1]
            by_cases v0 : w1 = 0
            · rw [if_pos v0] at y2
              rw [if_pos v0]; exact y2
            · rw [if_neg v0] at y2
              rw [if_neg v0, if_pos c2, if_pos v0]; exact y2
        · by_cases c3 : tx p = 37
          · obtain ⟨v1, w1, p1, f1, o1, z1, z2, zN, z4⟩ := ok (Or.inr (Or.inr c3))
            obtain ⟨v', w', p', f', o', y1, y2, y3⟩ := z4 (if v1 = 0 then 0 else v % v1) (if w1 = 0 then 0 else w % w1) (fun y => by rw [hv y, zN y])
            refine ⟨v', w', p', f', o', ?_, ?_, y3⟩
            · rw [f_X6_product_8, if_neg c, tk10n hE hp (by decide +kernel) (fun z => c1 z.2.2), g_bds, if_neg (by decide), tk10n hE hp (by decide +kernel) (fun z => c2 z.2.2), g_bds, if_neg (by decide), tk10y hE hp ⟨q.1, q.2, c3⟩, g_bds, if_pos rfl, z1, g_bds]
              by_cases v0 : v1 = 0
              · rw [if_pos v0] at y1
                rw [if_pos v0, f_X6_product_96, f_X6_product_102]; exact y1
              · rw [if_neg v0] at y1
                rw [if_neg v0, if_pos v0, f_X6_product_96, f_X6_product_102]; exact y1
            · rw [f_X11_product_10, r20, if_neg nf, if_neg c1, if_neg c2, if_pos c3, f_X11_product_35, g_lets, r8, on_s p (by omega), kR_8, z2, g_bds, if_neg c1]
              by_cases v0 : w1 = 0
              · rw [if_pos v0] at y2
                rw [if_pos v0]; exact y2
              · rw [if_neg v0] at y2
                rw [if_neg v0, if_neg c2, if_pos v0]; exact y2
          · refine ⟨v, w, p, f, o, ?_, ?_, hv, Nat.le_refl _, hp, fun u => ⟨hod u, rfl⟩⟩
            · rw [f_X6_product_8, if_neg c, tk10n hE hp (by decide +kernel) (fun z => c1 z.2.2), g_bds, if_neg (by decide), tk10n hE hp (by decide +kernel) (fun z => c2 z.2.2), g_bds, if_neg (by decide), tk10n hE hp (by decide +kernel) (fun z => c3 z.2.2), g_bds, if_neg (by decide)]
            · rw [f_X11_product_10, r20, if_neg nf, if_neg c1, if_neg c2, if_neg c3]
    · have nt : ∀ x, ¬ tkP tx sz p f x := fun x z => q ⟨z.1, z.2.1⟩
      refine ⟨v, w, p, f, o, ?_, ?_, hv, Nat.le_refl _, hp, fun u => ⟨hod u, rfl⟩⟩
      · rw [f_X6_product_8, if_neg c, tk10n hE hp (by decide +kernel) (nt _), g_bds, if_neg (by decide), tk10n hE hp (by decide +kernel) (nt _), g_bds, if_neg (by decide), tk10n hE hp (by decide +kernel) (nt _), g_bds, if_neg (by decide)]
      · rw [f_X11_product_10, r20]
        by_cases z : 0 ≤ f
        · rw [if_pos z]
        · rw [if_neg z, if_neg (fun r => q ⟨Int32.not_le.mp z, r⟩), if_neg (by decide +kernel), if_neg (by decide +kernel), if_neg (by decide +kernel)]
theorem P_step {N : Prop} {S T : z_Stt} {tx : Nat → Int32} {sz : Nat} (hE : env N S T tx sz) {n : Nat} (hn : 130 < n) {G : GT_X6_either} {H : GT_X11_either} {d : Nat} (ho : Sim N S T sz d (G.2.2.2.2.2 (Int32.ofNat d)) H.2.2.2.2.2) : Sim N S T sz d (f_X6_product n G (Int32.ofNat d)) (f_X11_product n H) := by
  intro p f o hp hod
  obtain ⟨v1, w1, p1, f1, o1, z1, z2, zN, z3, z4, z5⟩ := ho p f o hp hod
  obtain ⟨v', w', p', f', o', y1, y2, yN, y3, y4, y5⟩ := P_loop hE n ho 120 0 n n p1 v1 w1 f1 o1 zN (by omega) (by omega) (by omega) (by omega) z4 (fun u => (z5 u).1)
  refine ⟨v', w', p', f', o', ?_, ?_, yN, by omega, y4, fun u => ⟨(y5 u).1, by have e := (y5 u).2; rw [e] at u; have := (z5 u).2.1; omega, by have e := (y5 u).2; rw [e] at u ⊢; exact (z5 u).2.2⟩⟩
  · unfold f_X6_product
    rw [z1, g_bds]; exact y1
  · unfold f_X11_product
    rw [z2, g_bds, e_byteAt f1 o1 hE z4, g_bds]; exact y2
theorem S_loop {N : Prop} {S T : z_Stt} {tx : Nat → Int32} {sz : Nat} (hE : env N S T tx sz) (n : Nat) {G : GT_X6_either} {H : GT_X11_either} {d : Nat} (ho : Sim N S T sz d (G.2.2.2.2.1 (Int32.ofNat d)) H.2.2.2.2.1) : ∀ (j i m m' p : Nat) (v w f o : Int32), (N → v = w) → i + j = 120 → j < m → j < m' → i ≤ p → p ≤ sz → (f < 0 → o = Int32.ofNat d) → ∃ (v' w' : Int32) (p' : Nat) (f' o' : Int32), f_X6_sum_8 n G m (Int32.ofNat d) v (Int32.ofNat i) (kC S p f) = some (v', kC S p' f') ∧ f_X11_sums_5 n H m' w (kR T p f o) = some (w', kR T p' f' o') ∧ (N → v' = w') ∧ p ≤ p' ∧ p' ≤ sz ∧ (f' < 0 → o' = Int32.ofNat d ∧ f' = f) := by
  intro j
  have h1 := hE.1
  induction j with
  | zero =>
    intro i m m' p v w f o hv hi hm hm' hip hp hod
    obtain ⟨m, rfl⟩ : ∃ q, m = q + 1 := ⟨m - 1, by omega⟩
    obtain ⟨m', rfl⟩ : ∃ q, m' = q + 1 := ⟨m' - 1, by omega⟩
    have r20 : (kR T p f o).1 4820 = f := rfl
    have b := e_byteAt f o hE hp
    rw [if_neg (by omega)] at b
    refine ⟨v, w, p, f, o, ?_, ?_, hv, Nat.le_refl _, hp, fun u => ⟨hod u, rfl⟩⟩
    · rw [f_X6_sum_8, if_pos (by rw [on_120 (by omega)]; omega)]
    · rw [f_X11_sums_5, r20]
      split
      · rfl
      · rw [b, g_bds, if_neg (by decide +kernel), b, g_bds, if_neg (by decide +kernel)]
  | succ j ih =>
    intro i m m' p v w f o hv hi hm hm' hip hp hod
    obtain ⟨m, rfl⟩ : ∃ q, m = q + 1 := ⟨m - 1, by omega⟩
    obtain ⟨m', rfl⟩ : ∃ q, m' = q + 1 := ⟨m' - 1, by omega⟩
    have r20 : (kR T p f o).1 4820 = f := rfl
    have r8 : (kR T p f o).1 4818 = Int32.ofNat p := rfl
    have c : ¬ 120 ≤ Int32.ofNat i := by rw [on_120 (by omega)]; omega
    have b := e_byteAt f o hE hp
    by_cases q : f < 0 ∧ p < sz
    · have nf : ¬ 0 ≤ f := Int32.not_le.mpr q.1
      rw [if_pos q.2] at b
      have ok : tx p = 43 ∨ tx p = 45 → ∃ (v1 w1 : Int32) (p1 : Nat) (f1 o1 : Int32), G.2.2.2.2.1 (Int32.ofNat d) (kC S (p + 1) f) = some (v1, kC S p1 f1) ∧ H.2.2.2.2.1 (kR T (p + 1) f o) = some (w1, kR T p1 f1 o1) ∧ (N → v1 = w1) ∧ ∀ x y, (N → x = y) → ∃ (v' w' : Int32) (p' : Nat) (f' o' : Int32), f_X6_sum_8 n G m (Int32.ofNat d) x (Int32.ofNat i + 1) (kC S p1 f1) = some (v', kC S p' f') ∧ f_X11_sums_5 n H m' y (kR T p1 f1 o1) = some (w', kR T p' f' o') ∧ (N → v' = w') ∧ p ≤ p' ∧ p' ≤ sz ∧ (f' < 0 → o' = Int32.ofNat d ∧ f' = f) := by
        intro _
        obtain ⟨v1, w1, p1, f1, o1, z1, z2, zN, z3, z4, z5⟩ := ho (p + 1) f o (by omega) hod
        refine ⟨v1, w1, p1, f1, o1, z1, z2, zN, fun x y hxy => ?_⟩
        obtain ⟨v', w', p', f', o', y1, y2, yN, y3, y4, y5⟩ := ih (i + 1) m m' p1 x y f1 o1 hxy (by omega) (by omega) (by omega) (by omega) z4 (fun u => (z5 u).1)
        refine ⟨v', w', p', f', o', ?_, y2, yN, by omega, y4, fun u => ⟨(y5 u).1, by have e := (y5 u).2; rw [e] at u ⊢; exact (z5 u).2.2⟩⟩
        rw [on_s i (by omega)]; exact y1
      by_cases c1 : tx p = 43
      · obtain ⟨v1, w1, p1, f1, o1, z1, z2, zN, z4⟩ := ok (Or.inl c1)
        obtain ⟨v', w', p', f', o', y1, y2, y3⟩ := z4 (v + v1) (w + w1) (fun y => by rw [hv y, zN y])
        refine ⟨v', w', p', f', o', ?_, ?_, y3⟩
        · rw [f_X6_sum_8, if_neg c, tk10y hE hp ⟨q.1, q.2, c1⟩, g_bds, if_pos rfl, z1, g_bds, f_X6_sum_56]; exact y1
        · rw [f_X11_sums_5, r20, if_neg nf, b, g_bds, if_pos c1, f_X11_sums_30, b, g_bds, if_pos c1, f_X11_sums_44, g_lets, r8, on_s p (by omega), kR_8, z2, g_bds, if_neg (by decide +kernel), f_X11_sums_73]; exact y2
      · by_cases c2 : tx p = 45
        · obtain ⟨v1, w1, p1, f1, o1, z1, z2, zN, z4⟩ := ok (Or.inr c2)
          obtain ⟨v', w', p', f', o', y1, y2, y3⟩ := z4 (v - v1) (w - w1) (fun y => by rw [hv y, zN y])
          refine ⟨v', w', p', f', o', ?_, ?_, y3⟩
          · rw [f_X6_sum_8, if_neg c, tk10n hE hp (by decide +kernel) (fun z => c1 z.2.2), g_bds, if_neg (by decide), tk10y hE hp ⟨q.1, q.2, c2⟩, g_bds, if_pos rfl, z1, g_bds, f_X6_sum_56]; exact y1
          · rw [f_X11_sums_5, r20, if_neg nf, b, g_bds, if_neg c1, b, g_bds, if_pos c2, f_X11_sums_30, b, g_bds, if_neg c1, f_X11_sums_44, g_lets, r8, on_s p (by omega), kR_8, z2, g_bds, if_pos rfl, f_X11_sums_73]; exact y2
        · refine ⟨v, w, p, f, o, ?_, ?_, hv, Nat.le_refl _, hp, fun u => ⟨hod u, rfl⟩⟩
          · rw [f_X6_sum_8, if_neg c, tk10n hE hp (by decide +kernel) (fun z => c1 z.2.2), g_bds, if_neg (by decide), tk10n hE hp (by decide +kernel) (fun z => c2 z.2.2), g_bds, if_neg (by decide)]
          · rw [f_X11_sums_5, r20, if_neg nf, b, g_bds, if_neg c1, b, g_bds, if_neg c2]
    · have nt : ∀ x, ¬ tkP tx sz p f x := fun x z => q ⟨z.1, z.2.1⟩
      refine ⟨v, w, p, f, o, ?_, ?_, hv, Nat.le_refl _, hp, fun u => ⟨hod u, rfl⟩⟩
      · rw [f_X6_sum_8, if_neg c, tk10n hE hp (by decide +kernel) (nt _), g_bds, if_neg (by decide), tk10n hE hp (by decide +kernel) (nt _), g_bds, if_neg (by decide)]
      · rw [f_X11_sums_5, r20]
        by_cases z : 0 ≤ f
        · rw [if_pos z]
        · rw [if_neg (fun r => q ⟨Int32.not_le.mp z, r⟩)] at b
          rw [if_neg z, b, g_bds, if_neg (by decide +kernel), b, g_bds, if_neg (by decide +kernel)]
theorem S_step {N : Prop} {S T : z_Stt} {tx : Nat → Int32} {sz : Nat} (hE : env N S T tx sz) {n : Nat} (hn : 130 < n) {G : GT_X6_either} {H : GT_X11_either} {d : Nat} (ho : Sim N S T sz d (G.2.2.2.2.1 (Int32.ofNat d)) H.2.2.2.2.1) : Sim N S T sz d (f_X6_sum n G (Int32.ofNat d)) (f_X11_sums n H) := by
  intro p f o hp hod
  obtain ⟨v1, w1, p1, f1, o1, z1, z2, zN, z3, z4, z5⟩ := ho p f o hp hod
  obtain ⟨v', w', p', f', o', y1, y2, yN, y3, y4, y5⟩ := S_loop hE n ho 120 0 n n p1 v1 w1 f1 o1 zN (by omega) (by omega) (by omega) (by omega) z4 (fun u => (z5 u).1)
  refine ⟨v', w', p', f', o', ?_, ?_, yN, by omega, y4, fun u => ⟨(y5 u).1, by have e := (y5 u).2; rw [e] at u; have := (z5 u).2.1; omega, by have e := (y5 u).2; rw [e] at u ⊢; exact (z5 u).2.2⟩⟩
  · unfold f_X6_sum
    rw [z1, g_bds]; exact y1
  · unfold f_X11_sums
    rw [z2, g_bds]; exact y2
theorem truth_0 (S : z_Stt) : f_X6_truth 0 S = some (0, S) := by unfold f_X6_truth; rw [if_pos rfl]
theorem truth_1 (S : z_Stt) : f_X6_truth 1 S = some (1, S) := by unfold f_X6_truth; rw [if_neg (by decide +kernel)]
theorem C_step {N : Prop} {S T : z_Stt} {tx : Nat → Int32} {sz : Nat} (hE : env N S T tx sz) {n : Nat} {G : GT_X6_either} {H : GT_X11_either} {d : Nat} (ho : Sim N S T sz d (G.2.2.2.1 (Int32.ofNat d)) H.2.2.2.1) : Sim N S T sz d (f_X6_comparison n G (Int32.ofNat d)) (f_X11_compared n H) := by
  intro p0 f0 o0 hp0 hod0
  have h1 := hE.1
  obtain ⟨v, w, p, f, o, z1, z2, zN, z3, hp, z5⟩ := ho p0 f0 o0 hp0 hod0
  have hod : f < 0 → o = Int32.ofNat d := fun u => (z5 u).1
  have b := e_byteAt f o hE hp
  have r20 : (kR T p f o).1 4820 = f := rfl
  have r8 : (kR T p f o).1 4818 = Int32.ofNat p := rfl
  have k10 : ∀ r, (g_bd (f_X6_takes 60 (kC S p f)) fun v4 S5 => if v4 = true then g_bd (G.2.2.2.1 (Int32.ofNat d) S5) fun v24 S25 => if v24 ≤ v then f_X6_comparison_29 n G 0 S25 else f_X6_comparison_29 n G 1 S25 else g_bd (f_X6_takes 61 S5) fun v8 S9 => if v8 = true then g_bd (G.2.2.2.1 (Int32.ofNat d) S9) fun v20 S21 => if v = v20 then f_X6_comparison_56 n G 1 S21 else f_X6_comparison_56 n G 0 S21 else g_bd (f_X6_takes 62 S9) fun v12 S13 => if v12 = true then g_bd (G.2.2.2.1 (Int32.ofNat d) S13) fun v16 S17 => if v ≤ v16 then f_X6_comparison_83 n G 0 S17 else f_X6_comparison_83 n G 1 S17 else some (v, S13)) = r → f_X6_comparison n G (Int32.ofNat d) (kC S p0 f0) = r := by
    rintro r rfl
    unfold f_X6_comparison
    rw [z1, g_bds]
  by_cases q : f < 0 ∧ p < sz
  · have nf : ¬ 0 ≤ f := Int32.not_le.mpr q.1
    rw [if_pos q.2] at b
    by_cases cc : tx p = 60 ∨ tx p = 61 ∨ tx p = 62
    · obtain ⟨v1, w1, p1, f1, o1, y1, y2, yN, y3, y4, y5⟩ := ho (p + 1) f o (by omega) hod
      have k11 : ∀ r, (if tx p = 60 then (if w1 ≤ w then some (0, kR T p1 f1 o1) else some (1, kR T p1 f1 o1)) else if tx p = 61 then (if w = w1 then some (1, kR T p1 f1 o1) else some (0, kR T p1 f1 o1)) else if w ≤ w1 then some (0, kR T p1 f1 o1) else some (1, kR T p1 f1 o1)) = r → f_X11_compared n H (kR T p0 f0 o0) = r := by
        rintro r rfl
        have u : f_X11_compared_37 n H w (tx p) (kR T p f o) = (if tx p = 60 then (if w1 ≤ w then some (0, kR T p1 f1 o1) else some (1, kR T p1 f1 o1)) else if tx p = 61 then (if w = w1 then some (1, kR T p1 f1 o1) else some (0, kR T p1 f1 o1)) else if w ≤ w1 then some (0, kR T p1 f1 o1) else some (1, kR T p1 f1 o1)) := by
          unfold f_X11_compared_37
          rw [g_lets, r8, on_s p (by omega), kR_8, y2, g_bds]
        unfold f_X11_compared
        rw [z2, g_bds, b, g_bds, r20, if_neg nf, u]
        by_cases w1 : tx p = 60
        · rw [if_pos w1]
        · rw [if_neg w1]
          by_cases w2 : tx p = 61
          · rw [if_pos w2]
          · rw [if_neg w2, if_pos ((cc.resolve_left w1).resolve_left w2)]
      have fin : p0 ≤ p1 ∧ p1 ≤ sz ∧ (f1 < 0 → o1 = Int32.ofNat d ∧ p0 < p1 ∧ f1 = f0) := ⟨by omega, y4, fun u => ⟨(y5 u).1, by have := (y5 u).2.1; omega, (y5 u).2.2.trans (z5 q.1).2.2⟩⟩
      by_cases c1 : tx p = 60
      · refine ⟨if v1 ≤ v then 0 else 1, if w1 ≤ w then 0 else 1, p1, f1, o1, k10 _ ?_, k11 _ ?_, fun y => by rw [zN y, yN y], fin⟩
        · rw [tk10y hE hp ⟨q.1, q.2, c1⟩, g_bds, if_pos rfl, y1, g_bds]
          unfold f_X6_comparison_29
          rw [truth_0, truth_1, g_bds, g_bds]
          split <;> rfl
        · rw [if_pos c1]
          split <;> rfl
      · by_cases c2 : tx p = 61
        · refine ⟨if v = v1 then 1 else 0, if w = w1 then 1 else 0, p1, f1, o1, k10 _ ?_, k11 _ ?_, fun y => by rw [zN y, yN y], fin⟩
          · rw [tk10n hE hp (by decide +kernel) (fun z => c1 z.2.2), g_bds, if_neg (by decide), tk10y hE hp ⟨q.1, q.2, c2⟩, g_bds, if_pos rfl, y1, g_bds]
            unfold f_X6_comparison_56
            rw [truth_0, truth_1, g_bds, g_bds]
            split <;> rfl
          · rw [if_neg c1, if_pos c2]
            split <;> rfl
        · have c3 := (cc.resolve_left c1).resolve_left c2
          refine ⟨if v ≤ v1 then 0 else 1, if w ≤ w1 then 0 else 1, p1, f1, o1, k10 _ ?_, k11 _ ?_, fun y => by rw [zN y, yN y], fin⟩
          · rw [tk10n hE hp (by decide +kernel) (fun z => c1 z.2.2), g_bds, if_neg (by decide), tk10n hE hp (by decide +kernel) (fun z => c2 z.2.2), g_bds, if_neg (by decide), tk10y hE hp ⟨q.1, q.2, c3⟩, g_bds, if_pos rfl, y1, g_bds]
            unfold f_X6_comparison_83
            rw [truth_0, truth_1, g_bds, g_bds]
            split <;> rfl
          · rw [if_neg c1, if_neg c2]
            split <;> rfl
    · refine ⟨v, w, p, f, o, k10 _ ?_, ?_, zN, z3, hp, z5⟩
      · rw [tk10n hE hp (by decide +kernel) (fun z => cc (Or.inl z.2.2)), g_bds, if_neg (by decide), tk10n hE hp (by decide +kernel) (fun z => cc (Or.inr (Or.inl z.2.2))), g_bds, if_neg (by decide), tk10n hE hp (by decide +kernel) (fun z => cc (Or.inr (Or.inr z.2.2))), g_bds, if_neg (by decide)]
      · unfold f_X11_compared
        rw [z2, g_bds, b, g_bds, r20, if_neg nf, if_neg (fun z => cc (Or.inl z)), if_neg (fun z => cc (Or.inr (Or.inl z))), if_neg (fun z => cc (Or.inr (Or.inr z)))]
  · have nt : ∀ x, ¬ tkP tx sz p f x := fun x z => q ⟨z.1, z.2.1⟩
    refine ⟨v, w, p, f, o, k10 _ ?_, ?_, zN, z3, hp, z5⟩
    · rw [tk10n hE hp (by decide +kernel) (nt _), g_bds, if_neg (by decide), tk10n hE hp (by decide +kernel) (nt _), g_bds, if_neg (by decide), tk10n hE hp (by decide +kernel) (nt _), g_bds, if_neg (by decide)]
    · unfold f_X11_compared
      rw [z2, g_bds, b, g_bds, r20]
      by_cases z : 0 ≤ f
      · rw [if_pos z]
      · rw [if_neg z, if_neg (fun r => q ⟨Int32.not_le.mp z, r⟩), if_neg (by decide +kernel), if_neg (by decide +kernel), if_neg (by decide +kernel)]
